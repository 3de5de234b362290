/-! the whole state of the class, and of the model; their cells; each call as a function of the whole state -/
abbrev bwSn : Type := Int32 × Int32 × Int32 × Int32 × Int32 × Int32 × (Nat → Int32) × (Nat → Int32)
abbrev bwX : Type := bwCt × (Int32 × (Nat → Int32)) × bwSn × bwSn × bwCt × (Nat → Option bwCt) × bwH
def bw_snw (g : bwG) (a0 a1 a2 : Nat) (s : bwSn) : va_W := [(a0, .inr (3, [.ref a1, .int s.1, .ref a2, .int s.2.1, .int s.2.2.1, .int s.2.2.2.1, .int s.2.2.2.2.1, .int s.2.2.2.2.2.1])), (a1, .inl (g.2.1, 24, .inl s.2.2.2.2.2.2.1)), (a2, .inl (g.2.1, 24, .inl s.2.2.2.2.2.2.2))]
def bw_XW (g : bwG) (a : Nat → Nat) (x : bwX) : va_W := bw_tc (a 0) (a 1) (a 7) (a 9) (a 11) (a 12) (a 15) (a 18) :: (bw_cw g (fun k => a (k + 1)) x.1 ++ ((a 7, .inr (2, [.ref (a 8), .int x.2.1.1])) :: (a 8, .inl (g.2.2.1, 60, .inl x.2.1.2)) :: (bw_snw g (a 12) (a 13) (a 14) x.2.2.1 ++ (bw_snw g (a 15) (a 16) (a 17) x.2.2.2.1 ++ bw_cw g (fun k => a (k + 18)) x.2.2.2.2.1))))
def bw_WX (g : bwG) (a : Nat → Nat) (td th : bwHA) (x : bwX) : va_W := bw_XW g a x ++ (bw_sw g (a 11) td x.2.2.2.2.2.1 ++ bw_hw g (a 9) (a 10) th x.2.2.2.2.2.2)
/-- THE FRAME RULE: a contract over some cells is one over more -/
theorem bwS_frame {l : Launch} {g : bwG} {y : MethodName} {cc : ByteArray} {nL : Nat} {ret : Option FieldType} {rm : Room} {as : List Value} {wc wr ws : va_W} {Q Q' : Option Value → va_W → Prop} (h : bwS l g y cc nL ret rm as wc Q) (hperm : (wc ++ wr).Perm ws) (hQ : ∀ r w1, Q r w1 → ∃ w', Q' r w' ∧ w'.Perm (wr ++ w1)) : bwS l g y cc nL ret rm as ws Q' := by
  intro sz p e ha hc hk s m args below hf hap hP hK
  obtain ⟨e1, e2, hP0, hK0, hN0, hD0⟩ := hP
  have hDp : va_D (fun _ => True) (wc ++ wr) := bw_Dp hperm hD0
  have hnd := bw_D1 hDp
  rw [List.map_append, List.nodup_append] at hnd
  have hPc : va_P g.1 vwCl wc s.heap := bw_P (fun q hq => hperm.mem_iff.mp (List.mem_append_left _ hq)) hP0
  have hDc : va_D (fun _ => True) wc := bw_D2 hnd.1 (fun _ _ => trivial)
  obtain ⟨n, ot, h1, h2, h3, ⟨⟨⟨r, w1, q1, q2, q3, q4⟩, hF⟩, hL⟩⟩ := h sz p e ha hc hk s m args below hf hap ⟨e1, e2, hPc, hK0, hN0, hDc⟩ hK
  have hA : ∀ q : Nat, va_A wc sz q → va_A ws sz q := by
    intro q hq
    rcases hq with ⟨i, e0, hi⟩ | hq
    · obtain ⟨j, hj⟩ := List.getElem?_of_mem (hperm.mem_iff.mp (List.mem_append_left wr (List.mem_of_getElem? hi)))
      exact Or.inl ⟨j, e0, hj⟩
    · exact Or.inr hq
  have hwr : ∀ q ∈ wr, q.1 < sz ∧ ¬ va_A wc sz q.1 := by
    intro q hq
    obtain ⟨j, hj⟩ := List.getElem?_of_mem (hperm.mem_iff.mp (List.mem_append_right wc hq))
    have hlt := (hP0 j q hj).lt
    rw [e2] at hlt
    refine ⟨hlt, fun z => ?_⟩
    rcases z with ⟨i2, e0, hi2⟩ | z
    · exact hnd.2.2 q.1 (List.mem_map.mpr ⟨(q.1, e0), List.mem_of_getElem? hi2, rfl⟩) q.1 (List.mem_map.mpr ⟨q, hq, rfl⟩) rfl
    · omega
  obtain ⟨w', hq', hp'⟩ := hQ r w1 q2
  refine ⟨n, ot, h1, h2, h3, ⟨⟨⟨r, w', q1, hq', ?_, ?_⟩, ?_⟩, ?_⟩⟩
  · refine bw_P (ws := wr ++ w1) (fun q hq => hp'.mem_iff.mp hq) (va_P.app ?_ q3)
    intro i q hq
    have hqm : q ∈ wr := List.mem_of_getElem? hq
    obtain ⟨j, hj⟩ := List.getElem?_of_mem (hperm.mem_iff.mp (List.mem_append_right wc hqm))
    exact (hP0 j q hj).kept (hF.2 q.1 (hP0 j q hj).lt (hwr q hqm).2)
  · refine bw_Dp hp' (bw_D2 ?_ ?_)
    · rw [List.map_append, List.nodup_append]
      refine ⟨hnd.2.1, bw_D1 q4, ?_⟩
      intro a ha2 b hb hab
      subst hab
      obtain ⟨q, hq, rfl⟩ := List.mem_map.mp ha2
      obtain ⟨q5, hq5, e3⟩ := List.mem_map.mp hb
      have h4 := bw_D2' q4 q5 hq5
      rw [e3] at h4
      exact (hwr q hq).2 h4
    · intro q hq
      rcases List.mem_append.mp hq with h5 | h5
      · obtain ⟨j, hj⟩ := List.getElem?_of_mem (hperm.mem_iff.mp (List.mem_append_right wc h5))
        exact Or.inl ⟨j, q.2, hj⟩
      · exact hA _ (bw_D2' q4 q h5)
  · exact ⟨hF.1, fun q h5 h6 => hF.2 q h5 (fun z => h6 (hA q z))⟩
  · obtain ⟨L, hL1, hL2⟩ := hL
    exact ⟨L, hL1, fun q hq => hA _ (hL2 q hq)⟩
theorem bw_blk2 {α : Type} (Cs Bs : List (List α)) (h : Cs.Perm Bs) {X Y : List α} (hX : X = Bs.flatten) (hY : Y = Cs.flatten) : Y.Perm X := by
  subst hX; subst hY
  exact h.flatten
section BQ
variable {α : Type} {A B X s h : List α}
theorem bw_q1 (hp : (A ++ B).Perm X) : (A ++ (B ++ (s ++ h))).Perm (X ++ (s ++ h)) := by
  rw [← List.append_assoc]; exact hp.append_right _
theorem bw_q2 (hp : (A ++ B).Perm X) : ((A ++ h) ++ (B ++ s)).Perm (X ++ (s ++ h)) :=
  (bw_blk2 [A, h, B, s] [A, B, s, h] (bw_pick1 4 [0, 3, 1, 2] rfl rfl (by decide)) rfl (by simp only [List.flatten_cons, List.flatten_nil, List.append_nil, List.append_assoc])).trans (by
    show (A ++ (B ++ (s ++ (h ++ [])))).Perm _
    rw [List.append_nil, ← List.append_assoc]; exact hp.append_right _)
theorem bw_q3 (hp : (A ++ B).Perm X) : ((A ++ s) ++ (B ++ h)).Perm (X ++ (s ++ h)) :=
  (bw_blk2 [A, s, B, h] [A, B, s, h] (bw_pick1 4 [0, 2, 1, 3] rfl rfl (by decide)) rfl (by simp only [List.flatten_cons, List.flatten_nil, List.append_nil, List.append_assoc])).trans (by
    show (A ++ (B ++ (s ++ (h ++ [])))).Perm _
    rw [List.append_nil, ← List.append_assoc]; exact hp.append_right _)
theorem bw_q4 (hp : (A ++ B).Perm X) : ((A ++ (s ++ h)) ++ B).Perm (X ++ (s ++ h)) :=
  (bw_blk2 [A, s, h, B] [A, B, s, h] (bw_pick1 4 [0, 2, 3, 1] rfl rfl (by decide)) rfl (by simp only [List.flatten_cons, List.flatten_nil, List.append_nil, List.append_assoc])).trans (by
    show (A ++ (B ++ (s ++ (h ++ [])))).Perm _
    rw [List.append_nil, ← List.append_assoc]; exact hp.append_right _)
theorem bw_r1 (hp : X.Perm (B ++ A)) : (X ++ (s ++ h)).Perm ((B ++ (s ++ h)) ++ A) := by
  refine (hp.append_right _).trans ?_
  exact bw_blk2 [B, A, s, h] [B, s, h, A] (bw_pick1 4 [0, 3, 1, 2] rfl rfl (by decide)) (by simp only [List.flatten_cons, List.flatten_nil, List.append_nil, List.append_assoc]) (by simp only [List.flatten_cons, List.flatten_nil, List.append_nil, List.append_assoc])
theorem bw_r2 (hp : X.Perm (B ++ A)) : (X ++ (s ++ h)).Perm ((B ++ s) ++ (A ++ h)) := by
  refine (hp.append_right _).trans ?_
  exact bw_blk2 [B, A, s, h] [B, s, A, h] (bw_pick1 4 [0, 2, 1, 3] rfl rfl (by decide)) (by simp only [List.flatten_cons, List.flatten_nil, List.append_nil, List.append_assoc]) (by simp only [List.flatten_cons, List.flatten_nil, List.append_nil, List.append_assoc])
theorem bw_r3 (hp : X.Perm (B ++ A)) : (X ++ (s ++ h)).Perm ((B ++ h) ++ (A ++ s)) := by
  refine (hp.append_right _).trans ?_
  exact bw_blk2 [B, A, s, h] [B, h, A, s] (bw_pick1 4 [0, 2, 3, 1] rfl rfl (by decide)) (by simp only [List.flatten_cons, List.flatten_nil, List.append_nil, List.append_assoc]) (by simp only [List.flatten_cons, List.flatten_nil, List.append_nil, List.append_assoc])
theorem bw_r4 (hp : X.Perm (B ++ A)) : (X ++ (s ++ h)).Perm (B ++ (A ++ (s ++ h))) := by
  rw [← List.append_assoc B A (s ++ h)]; exact hp.append_right _
theorem bw_hd (c : α) : (X ++ (s ++ (c :: h))).Perm ((X ++ [c]) ++ (s ++ h)) :=
  bw_blk2 [X, s, [c], h] [X, [c], s, h] (bw_pick1 4 [0, 2, 1, 3] rfl rfl (by decide)) (by simp only [List.flatten_cons, List.flatten_nil, List.append_nil, List.append_assoc]) (by simp only [List.flatten_cons, List.flatten_nil, List.append_nil, List.append_assoc, List.cons_append, List.nil_append])
end BQ
def x_set (x : bwX) (p0 : Int32) (p1 : Int32) : Option (Int32 × bwX) := (f_X4_set x.1.1 x.1.2.1 x.1.2.2.1 x.1.2.2.2.1 x.1.2.2.2.2.1 x.1.2.2.2.2.2.1 x.1.2.2.2.2.2.2.1 x.1.2.2.2.2.2.2.2 x.2.2.2.2.2.2 p0 p1).bind fun q => some (q.1, ((x.1.1, x.1.2.1, x.1.2.2.1, q.2.1, x.1.2.2.2.2.1, x.1.2.2.2.2.2.1, x.1.2.2.2.2.2.2.1, x.1.2.2.2.2.2.2.2), x.2.1, x.2.2.1, x.2.2.2.1, x.2.2.2.2.1, x.2.2.2.2.2.1, q.2.2))
set_option maxHeartbeats 4000000 in
set_option maxRecDepth 100000 in
theorem t_X4_set (l : Launch) (g : bwG) (a : Nat → Nat) (td th : bwHA) (x : bwX) (p0 : Int32) (p1 : Int32) (res : Int32 × bwX) (hf : x_set x p0 p1 = some res) : bwS l g yX4_set cX4_set 5 (some .int) ({ frames := 4, cells := 6, slots := 101, locals := 86 } : Room) [.ref (a 0), .int p0, .int p1] (bw_WX g a td th x) (fun r w => r = some (.int res.1) ∧ ∃ td1 th1 : bwHA, w = bw_WX g a td1 th1 res.2) := by
  unfold x_set at hf
  obtain ⟨q, hq, hf⟩ := bw_bind hf
  cases Option.some.inj hf
  refine bwS_frame (s_X4_set l g (a 0) (a 1) (a 7) (a 9) (a 11) (a 12) (a 15) (a 18) (a 2) (a 3) (a 4) (a 5) (a 6) (a 10) th x.1.1 x.1.2.1 x.1.2.2.1 x.1.2.2.2.1 x.1.2.2.2.2.1 x.1.2.2.2.2.2.1 x.1.2.2.2.2.2.2.1 x.1.2.2.2.2.2.2.2 x.2.2.2.2.2.2 p0 p1 q hq) (bw_q2 (A := [0, 1, 2, 3, 4, 5, 6].filterMap (fun i => (bw_XW g a x)[i]?)) (B := [7, 8, 9, 10, 11, 12, 13, 14, 15, 16, 17, 18, 19, 20].filterMap (fun i => (bw_XW g a x)[i]?)) (s := bw_sw g (a 11) td x.2.2.2.2.2.1) (bw_pick1 21 [0, 1, 2, 3, 4, 5, 6, 7, 8, 9, 10, 11, 12, 13, 14, 15, 16, 17, 18, 19, 20] rfl rfl (by decide))) (fun r w1 h => ?_)
  obtain ⟨rfl, th1, rfl⟩ := h
  exact ⟨_, ⟨rfl, td, th1, rfl⟩, bw_r2 (α := Nat × va_E) (X := bw_XW g a ((x.1.1, x.1.2.1, x.1.2.2.1, q.2.1, x.1.2.2.2.2.1, x.1.2.2.2.2.2.1, x.1.2.2.2.2.2.2.1, x.1.2.2.2.2.2.2.2), x.2.1, x.2.2.1, x.2.2.2.1, x.2.2.2.2.1, x.2.2.2.2.2.1, q.2.2)) (A := [(a 0, .inr (4, [.ref (a 1), .ref (a 7), .ref (a 9), .ref (a 11), .ref (a 12), .ref (a 15), .ref (a 18)])), (a 1, .inr (0, [.ref (a 2), .ref (a 3), .ref (a 4), .ref (a 5), .ref (a 6), .int x.1.1, .int x.1.2.1, .int x.1.2.2.1])), (a 2, .inl (g.2.1, 3, .inl q.2.1)), (a 3, .inl (g.2.1, 6, .inl x.1.2.2.2.2.1)), (a 4, .inl (g.2.1, 36, .inl x.1.2.2.2.2.2.1)), (a 5, .inl (g.2.1, 24, .inl x.1.2.2.2.2.2.2.1)), (a 6, .inl (g.2.1, 24, .inl x.1.2.2.2.2.2.2.2))]) (B := [7, 8, 9, 10, 11, 12, 13, 14, 15, 16, 17, 18, 19, 20].filterMap (fun i => (bw_XW g a x)[i]?)) (s := bw_sw g (a 11) td x.2.2.2.2.2.1) (h := bw_hw g (a 9) (a 10) th1 (((x.1.1, x.1.2.1, x.1.2.2.1, q.2.1, x.1.2.2.2.2.1, x.1.2.2.2.2.2.1, x.1.2.2.2.2.2.2.1, x.1.2.2.2.2.2.2.2), x.2.1, x.2.2.1, x.2.2.2.1, x.2.2.2.2.1, x.2.2.2.2.2.1, q.2.2) : bwX).2.2.2.2.2.2) (bw_pick1 21 [14, 15, 16, 17, 18, 19, 20, 0, 1, 2, 3, 4, 5, 6, 7, 8, 9, 10, 11, 12, 13] rfl rfl (by decide))⟩
def x_eyes (x : bwX) (p0 : Int32) (p1 : Int32) : Option (Int32 × bwX) := (f_X4_eyes x.1.1 x.1.2.1 x.1.2.2.1 x.1.2.2.2.1 x.1.2.2.2.2.1 x.1.2.2.2.2.2.1 x.1.2.2.2.2.2.2.1 x.1.2.2.2.2.2.2.2 x.2.2.2.2.2.2 p0 p1).bind fun q => some (q.1, ((x.1.1, x.1.2.1, x.1.2.2.1, x.1.2.2.2.1, q.2.1, x.1.2.2.2.2.2.1, x.1.2.2.2.2.2.2.1, x.1.2.2.2.2.2.2.2), x.2.1, x.2.2.1, x.2.2.2.1, x.2.2.2.2.1, x.2.2.2.2.2.1, q.2.2))
set_option maxHeartbeats 4000000 in
set_option maxRecDepth 100000 in
theorem t_X4_eyes (l : Launch) (g : bwG) (a : Nat → Nat) (td th : bwHA) (x : bwX) (p0 : Int32) (p1 : Int32) (res : Int32 × bwX) (hf : x_eyes x p0 p1 = some res) : bwS l g yX4_eyes cX4_eyes 4 (some .int) ({ frames := 4, cells := 6, slots := 101, locals := 86 } : Room) [.ref (a 0), .int p0, .int p1] (bw_WX g a td th x) (fun r w => r = some (.int res.1) ∧ ∃ td1 th1 : bwHA, w = bw_WX g a td1 th1 res.2) := by
  unfold x_eyes at hf
  obtain ⟨q, hq, hf⟩ := bw_bind hf
  cases Option.some.inj hf
  refine bwS_frame (s_X4_eyes l g (a 0) (a 1) (a 7) (a 9) (a 11) (a 12) (a 15) (a 18) (a 2) (a 3) (a 4) (a 5) (a 6) (a 10) th x.1.1 x.1.2.1 x.1.2.2.1 x.1.2.2.2.1 x.1.2.2.2.2.1 x.1.2.2.2.2.2.1 x.1.2.2.2.2.2.2.1 x.1.2.2.2.2.2.2.2 x.2.2.2.2.2.2 p0 p1 q hq) (bw_q2 (A := [0, 1, 2, 3, 4, 5, 6].filterMap (fun i => (bw_XW g a x)[i]?)) (B := [7, 8, 9, 10, 11, 12, 13, 14, 15, 16, 17, 18, 19, 20].filterMap (fun i => (bw_XW g a x)[i]?)) (s := bw_sw g (a 11) td x.2.2.2.2.2.1) (bw_pick1 21 [0, 1, 2, 3, 4, 5, 6, 7, 8, 9, 10, 11, 12, 13, 14, 15, 16, 17, 18, 19, 20] rfl rfl (by decide))) (fun r w1 h => ?_)
  obtain ⟨rfl, th1, rfl⟩ := h
  exact ⟨_, ⟨rfl, td, th1, rfl⟩, bw_r2 (α := Nat × va_E) (X := bw_XW g a ((x.1.1, x.1.2.1, x.1.2.2.1, x.1.2.2.2.1, q.2.1, x.1.2.2.2.2.2.1, x.1.2.2.2.2.2.2.1, x.1.2.2.2.2.2.2.2), x.2.1, x.2.2.1, x.2.2.2.1, x.2.2.2.2.1, x.2.2.2.2.2.1, q.2.2)) (A := [(a 0, .inr (4, [.ref (a 1), .ref (a 7), .ref (a 9), .ref (a 11), .ref (a 12), .ref (a 15), .ref (a 18)])), (a 1, .inr (0, [.ref (a 2), .ref (a 3), .ref (a 4), .ref (a 5), .ref (a 6), .int x.1.1, .int x.1.2.1, .int x.1.2.2.1])), (a 2, .inl (g.2.1, 3, .inl x.1.2.2.2.1)), (a 3, .inl (g.2.1, 6, .inl q.2.1)), (a 4, .inl (g.2.1, 36, .inl x.1.2.2.2.2.2.1)), (a 5, .inl (g.2.1, 24, .inl x.1.2.2.2.2.2.2.1)), (a 6, .inl (g.2.1, 24, .inl x.1.2.2.2.2.2.2.2))]) (B := [7, 8, 9, 10, 11, 12, 13, 14, 15, 16, 17, 18, 19, 20].filterMap (fun i => (bw_XW g a x)[i]?)) (s := bw_sw g (a 11) td x.2.2.2.2.2.1) (h := bw_hw g (a 9) (a 10) th1 (((x.1.1, x.1.2.1, x.1.2.2.1, x.1.2.2.2.1, q.2.1, x.1.2.2.2.2.2.1, x.1.2.2.2.2.2.2.1, x.1.2.2.2.2.2.2.2), x.2.1, x.2.2.1, x.2.2.2.1, x.2.2.2.2.1, x.2.2.2.2.2.1, q.2.2) : bwX).2.2.2.2.2.2) (bw_pick1 21 [14, 15, 16, 17, 18, 19, 20, 0, 1, 2, 3, 4, 5, 6, 7, 8, 9, 10, 11, 12, 13] rfl rfl (by decide))⟩
def x_bow (x : bwX) (p0 : Int32) (p1 : Int32) (p2 : Int32) : Option (Int32 × bwX) := (f_X4_bow x.1.1 x.1.2.1 x.1.2.2.1 x.1.2.2.2.1 x.1.2.2.2.2.1 x.1.2.2.2.2.2.1 x.1.2.2.2.2.2.2.1 x.1.2.2.2.2.2.2.2 x.2.2.2.2.2.2 p0 p1 p2).bind fun q => some (q.1, ((q.2.1, x.1.2.1, x.1.2.2.1, x.1.2.2.2.1, x.1.2.2.2.2.1, x.1.2.2.2.2.2.1, q.2.2.1, q.2.2.2.1), x.2.1, x.2.2.1, x.2.2.2.1, x.2.2.2.2.1, x.2.2.2.2.2.1, q.2.2.2.2))
set_option maxHeartbeats 4000000 in
set_option maxRecDepth 100000 in
theorem t_X4_bow (l : Launch) (g : bwG) (a : Nat → Nat) (td th : bwHA) (x : bwX) (p0 : Int32) (p1 : Int32) (p2 : Int32) (res : Int32 × bwX) (hf : x_bow x p0 p1 p2 = some res) : bwS l g yX4_bow cX4_bow 4 (some .int) ({ frames := 4, cells := 6, slots := 101, locals := 86 } : Room) [.ref (a 0), .int p0, .int p1, .int p2] (bw_WX g a td th x) (fun r w => r = some (.int res.1) ∧ ∃ td1 th1 : bwHA, w = bw_WX g a td1 th1 res.2) := by
  unfold x_bow at hf
  obtain ⟨q, hq, hf⟩ := bw_bind hf
  cases Option.some.inj hf
  refine bwS_frame (s_X4_bow l g (a 0) (a 1) (a 7) (a 9) (a 11) (a 12) (a 15) (a 18) (a 2) (a 3) (a 4) (a 5) (a 6) (a 10) th x.1.1 x.1.2.1 x.1.2.2.1 x.1.2.2.2.1 x.1.2.2.2.2.1 x.1.2.2.2.2.2.1 x.1.2.2.2.2.2.2.1 x.1.2.2.2.2.2.2.2 x.2.2.2.2.2.2 p0 p1 p2 q hq) (bw_q2 (A := [0, 1, 2, 3, 4, 5, 6].filterMap (fun i => (bw_XW g a x)[i]?)) (B := [7, 8, 9, 10, 11, 12, 13, 14, 15, 16, 17, 18, 19, 20].filterMap (fun i => (bw_XW g a x)[i]?)) (s := bw_sw g (a 11) td x.2.2.2.2.2.1) (bw_pick1 21 [0, 1, 2, 3, 4, 5, 6, 7, 8, 9, 10, 11, 12, 13, 14, 15, 16, 17, 18, 19, 20] rfl rfl (by decide))) (fun r w1 h => ?_)
  obtain ⟨rfl, th1, rfl⟩ := h
  exact ⟨_, ⟨rfl, td, th1, rfl⟩, bw_r2 (α := Nat × va_E) (X := bw_XW g a ((q.2.1, x.1.2.1, x.1.2.2.1, x.1.2.2.2.1, x.1.2.2.2.2.1, x.1.2.2.2.2.2.1, q.2.2.1, q.2.2.2.1), x.2.1, x.2.2.1, x.2.2.2.1, x.2.2.2.2.1, x.2.2.2.2.2.1, q.2.2.2.2)) (A := [(a 0, .inr (4, [.ref (a 1), .ref (a 7), .ref (a 9), .ref (a 11), .ref (a 12), .ref (a 15), .ref (a 18)])), (a 1, .inr (0, [.ref (a 2), .ref (a 3), .ref (a 4), .ref (a 5), .ref (a 6), .int q.2.1, .int x.1.2.1, .int x.1.2.2.1])), (a 2, .inl (g.2.1, 3, .inl x.1.2.2.2.1)), (a 3, .inl (g.2.1, 6, .inl x.1.2.2.2.2.1)), (a 4, .inl (g.2.1, 36, .inl x.1.2.2.2.2.2.1)), (a 5, .inl (g.2.1, 24, .inl q.2.2.1)), (a 6, .inl (g.2.1, 24, .inl q.2.2.2.1))]) (B := [7, 8, 9, 10, 11, 12, 13, 14, 15, 16, 17, 18, 19, 20].filterMap (fun i => (bw_XW g a x)[i]?)) (s := bw_sw g (a 11) td x.2.2.2.2.2.1) (h := bw_hw g (a 9) (a 10) th1 (((q.2.1, x.1.2.1, x.1.2.2.1, x.1.2.2.2.1, x.1.2.2.2.2.1, x.1.2.2.2.2.2.1, q.2.2.1, q.2.2.2.1), x.2.1, x.2.2.1, x.2.2.2.1, x.2.2.2.2.1, x.2.2.2.2.2.1, q.2.2.2.2) : bwX).2.2.2.2.2.2) (bw_pick1 21 [14, 15, 16, 17, 18, 19, 20, 0, 1, 2, 3, 4, 5, 6, 7, 8, 9, 10, 11, 12, 13] rfl rfl (by decide))⟩
def x_takeBack (x : bwX)  : Option (Int32 × bwX) := (f_X4_takeBack x.1.1 x.1.2.1 x.1.2.2.1 x.1.2.2.2.1 x.1.2.2.2.2.1 x.1.2.2.2.2.2.1 x.1.2.2.2.2.2.2.1 x.1.2.2.2.2.2.2.2 x.2.2.2.2.2.2 ).bind fun q => some (q.1, ((q.2.1, x.1.2.1, x.1.2.2.1, x.1.2.2.2.1, x.1.2.2.2.2.1, x.1.2.2.2.2.2.1, x.1.2.2.2.2.2.2.1, x.1.2.2.2.2.2.2.2), x.2.1, x.2.2.1, x.2.2.2.1, x.2.2.2.2.1, x.2.2.2.2.2.1, q.2.2))
set_option maxHeartbeats 4000000 in
set_option maxRecDepth 100000 in
theorem t_X4_takeBack (l : Launch) (g : bwG) (a : Nat → Nat) (td th : bwHA) (x : bwX)  (res : Int32 × bwX) (hf : x_takeBack x  = some res) : bwS l g yX4_takeBack cX4_takeBack 1 (some .int) ({ frames := 4, cells := 6, slots := 101, locals := 86 } : Room) [.ref (a 0)] (bw_WX g a td th x) (fun r w => r = some (.int res.1) ∧ ∃ td1 th1 : bwHA, w = bw_WX g a td1 th1 res.2) := by
  unfold x_takeBack at hf
  obtain ⟨q, hq, hf⟩ := bw_bind hf
  cases Option.some.inj hf
  refine bwS_frame (s_X4_takeBack l g (a 0) (a 1) (a 7) (a 9) (a 11) (a 12) (a 15) (a 18) (a 2) (a 3) (a 4) (a 5) (a 6) (a 10) th x.1.1 x.1.2.1 x.1.2.2.1 x.1.2.2.2.1 x.1.2.2.2.2.1 x.1.2.2.2.2.2.1 x.1.2.2.2.2.2.2.1 x.1.2.2.2.2.2.2.2 x.2.2.2.2.2.2  q hq) (bw_q2 (A := [0, 1, 2, 3, 4, 5, 6].filterMap (fun i => (bw_XW g a x)[i]?)) (B := [7, 8, 9, 10, 11, 12, 13, 14, 15, 16, 17, 18, 19, 20].filterMap (fun i => (bw_XW g a x)[i]?)) (s := bw_sw g (a 11) td x.2.2.2.2.2.1) (bw_pick1 21 [0, 1, 2, 3, 4, 5, 6, 7, 8, 9, 10, 11, 12, 13, 14, 15, 16, 17, 18, 19, 20] rfl rfl (by decide))) (fun r w1 h => ?_)
  obtain ⟨rfl, th1, rfl⟩ := h
  exact ⟨_, ⟨rfl, td, th1, rfl⟩, bw_r2 (α := Nat × va_E) (X := bw_XW g a ((q.2.1, x.1.2.1, x.1.2.2.1, x.1.2.2.2.1, x.1.2.2.2.2.1, x.1.2.2.2.2.2.1, x.1.2.2.2.2.2.2.1, x.1.2.2.2.2.2.2.2), x.2.1, x.2.2.1, x.2.2.2.1, x.2.2.2.2.1, x.2.2.2.2.2.1, q.2.2)) (A := [(a 0, .inr (4, [.ref (a 1), .ref (a 7), .ref (a 9), .ref (a 11), .ref (a 12), .ref (a 15), .ref (a 18)])), (a 1, .inr (0, [.ref (a 2), .ref (a 3), .ref (a 4), .ref (a 5), .ref (a 6), .int q.2.1, .int x.1.2.1, .int x.1.2.2.1])), (a 2, .inl (g.2.1, 3, .inl x.1.2.2.2.1)), (a 3, .inl (g.2.1, 6, .inl x.1.2.2.2.2.1)), (a 4, .inl (g.2.1, 36, .inl x.1.2.2.2.2.2.1)), (a 5, .inl (g.2.1, 24, .inl x.1.2.2.2.2.2.2.1)), (a 6, .inl (g.2.1, 24, .inl x.1.2.2.2.2.2.2.2))]) (B := [7, 8, 9, 10, 11, 12, 13, 14, 15, 16, 17, 18, 19, 20].filterMap (fun i => (bw_XW g a x)[i]?)) (s := bw_sw g (a 11) td x.2.2.2.2.2.1) (h := bw_hw g (a 9) (a 10) th1 (((q.2.1, x.1.2.1, x.1.2.2.1, x.1.2.2.2.1, x.1.2.2.2.2.1, x.1.2.2.2.2.2.1, x.1.2.2.2.2.2.2.1, x.1.2.2.2.2.2.2.2), x.2.1, x.2.2.1, x.2.2.2.1, x.2.2.2.2.1, x.2.2.2.2.2.1, q.2.2) : bwX).2.2.2.2.2.2) (bw_pick1 21 [14, 15, 16, 17, 18, 19, 20, 0, 1, 2, 3, 4, 5, 6, 7, 8, 9, 10, 11, 12, 13] rfl rfl (by decide))⟩
def x_read (x : bwX)  : Option (Int32 × bwX) := (f_X4_read x.1.1 x.1.2.1 x.1.2.2.1 x.1.2.2.2.1 x.1.2.2.2.2.1 x.1.2.2.2.2.2.1 x.1.2.2.2.2.2.2.1 x.1.2.2.2.2.2.2.2 x.2.1.1 x.2.1.2 x.2.2.2.2.2.2 ).bind fun q => some (q.1, ((q.2.1, x.1.2.1, x.1.2.2.1, x.1.2.2.2.1, x.1.2.2.2.2.1, x.1.2.2.2.2.2.1, q.2.2.1, q.2.2.2.1), (q.2.2.2.2.1, x.2.1.2), x.2.2.1, x.2.2.2.1, x.2.2.2.2.1, x.2.2.2.2.2.1, q.2.2.2.2.2))
set_option maxHeartbeats 4000000 in
set_option maxRecDepth 100000 in
theorem t_X4_read (l : Launch) (g : bwG) (a : Nat → Nat) (td th : bwHA) (x : bwX)  (res : Int32 × bwX) (hf : x_read x  = some res) : bwS l g yX4_read cX4_read 1 (some .int) ({ frames := 4, cells := 6, slots := 101, locals := 86 } : Room) [.ref (a 0)] (bw_WX g a td th x) (fun r w => r = some (.int res.1) ∧ ∃ td1 th1 : bwHA, w = bw_WX g a td1 th1 res.2) := by
  unfold x_read at hf
  obtain ⟨q, hq, hf⟩ := bw_bind hf
  cases Option.some.inj hf
  refine bwS_frame (s_X4_read l g (a 0) (a 1) (a 7) (a 9) (a 11) (a 12) (a 15) (a 18) (a 2) (a 3) (a 4) (a 5) (a 6) (a 8) (a 10) th x.1.1 x.1.2.1 x.1.2.2.1 x.1.2.2.2.1 x.1.2.2.2.2.1 x.1.2.2.2.2.2.1 x.1.2.2.2.2.2.2.1 x.1.2.2.2.2.2.2.2 x.2.1.1 x.2.1.2 x.2.2.2.2.2.2  q hq) (bw_q2 (A := [0, 1, 2, 3, 4, 5, 6, 7, 8].filterMap (fun i => (bw_XW g a x)[i]?)) (B := [9, 10, 11, 12, 13, 14, 15, 16, 17, 18, 19, 20].filterMap (fun i => (bw_XW g a x)[i]?)) (s := bw_sw g (a 11) td x.2.2.2.2.2.1) (bw_pick1 21 [0, 1, 2, 3, 4, 5, 6, 7, 8, 9, 10, 11, 12, 13, 14, 15, 16, 17, 18, 19, 20] rfl rfl (by decide))) (fun r w1 h => ?_)
  obtain ⟨rfl, th1, rfl⟩ := h
  exact ⟨_, ⟨rfl, td, th1, rfl⟩, bw_r2 (α := Nat × va_E) (X := bw_XW g a ((q.2.1, x.1.2.1, x.1.2.2.1, x.1.2.2.2.1, x.1.2.2.2.2.1, x.1.2.2.2.2.2.1, q.2.2.1, q.2.2.2.1), (q.2.2.2.2.1, x.2.1.2), x.2.2.1, x.2.2.2.1, x.2.2.2.2.1, x.2.2.2.2.2.1, q.2.2.2.2.2)) (A := [(a 0, .inr (4, [.ref (a 1), .ref (a 7), .ref (a 9), .ref (a 11), .ref (a 12), .ref (a 15), .ref (a 18)])), (a 1, .inr (0, [.ref (a 2), .ref (a 3), .ref (a 4), .ref (a 5), .ref (a 6), .int q.2.1, .int x.1.2.1, .int x.1.2.2.1])), (a 2, .inl (g.2.1, 3, .inl x.1.2.2.2.1)), (a 3, .inl (g.2.1, 6, .inl x.1.2.2.2.2.1)), (a 4, .inl (g.2.1, 36, .inl x.1.2.2.2.2.2.1)), (a 5, .inl (g.2.1, 24, .inl q.2.2.1)), (a 6, .inl (g.2.1, 24, .inl q.2.2.2.1)), (a 7, .inr (2, [.ref (a 8), .int q.2.2.2.2.1])), (a 8, .inl (g.2.2.1, 60, .inl x.2.1.2))]) (B := [9, 10, 11, 12, 13, 14, 15, 16, 17, 18, 19, 20].filterMap (fun i => (bw_XW g a x)[i]?)) (s := bw_sw g (a 11) td x.2.2.2.2.2.1) (h := bw_hw g (a 9) (a 10) th1 (((q.2.1, x.1.2.1, x.1.2.2.1, x.1.2.2.2.1, x.1.2.2.2.2.1, x.1.2.2.2.2.2.1, q.2.2.1, q.2.2.2.1), (q.2.2.2.2.1, x.2.1.2), x.2.2.1, x.2.2.2.1, x.2.2.2.2.1, x.2.2.2.2.2.1, q.2.2.2.2.2) : bwX).2.2.2.2.2.2) (bw_pick1 21 [12, 13, 14, 15, 16, 17, 18, 19, 20, 0, 1, 2, 3, 4, 5, 6, 7, 8, 9, 10, 11] rfl rfl (by decide))⟩
def x_hush (x : bwX)  : Option (Int32 × bwX) := (f_X4_hush x.1.1 x.1.2.1 x.1.2.2.1 x.1.2.2.2.1 x.1.2.2.2.2.1 x.1.2.2.2.2.2.1 x.1.2.2.2.2.2.2.1 x.1.2.2.2.2.2.2.2 x.2.2.2.2.2.2 ).bind fun q => some (q.1, ((q.2.1, x.1.2.1, x.1.2.2.1, x.1.2.2.2.1, x.1.2.2.2.2.1, x.1.2.2.2.2.2.1, x.1.2.2.2.2.2.2.1, x.1.2.2.2.2.2.2.2), x.2.1, x.2.2.1, x.2.2.2.1, x.2.2.2.2.1, x.2.2.2.2.2.1, q.2.2))
set_option maxHeartbeats 4000000 in
set_option maxRecDepth 100000 in
theorem t_X4_hush (l : Launch) (g : bwG) (a : Nat → Nat) (td th : bwHA) (x : bwX)  (res : Int32 × bwX) (hf : x_hush x  = some res) : bwS l g yX4_hush cX4_hush 2 (some .int) ({ frames := 4, cells := 6, slots := 101, locals := 86 } : Room) [.ref (a 0)] (bw_WX g a td th x) (fun r w => r = some (.int res.1) ∧ ∃ td1 th1 : bwHA, w = bw_WX g a td1 th1 res.2) := by
  unfold x_hush at hf
  obtain ⟨q, hq, hf⟩ := bw_bind hf
  cases Option.some.inj hf
  refine bwS_frame (s_X4_hush l g (a 0) (a 1) (a 7) (a 9) (a 11) (a 12) (a 15) (a 18) (a 2) (a 3) (a 4) (a 5) (a 6) (a 10) th x.1.1 x.1.2.1 x.1.2.2.1 x.1.2.2.2.1 x.1.2.2.2.2.1 x.1.2.2.2.2.2.1 x.1.2.2.2.2.2.2.1 x.1.2.2.2.2.2.2.2 x.2.2.2.2.2.2  q hq) (bw_q2 (A := [0, 1, 2, 3, 4, 5, 6].filterMap (fun i => (bw_XW g a x)[i]?)) (B := [7, 8, 9, 10, 11, 12, 13, 14, 15, 16, 17, 18, 19, 20].filterMap (fun i => (bw_XW g a x)[i]?)) (s := bw_sw g (a 11) td x.2.2.2.2.2.1) (bw_pick1 21 [0, 1, 2, 3, 4, 5, 6, 7, 8, 9, 10, 11, 12, 13, 14, 15, 16, 17, 18, 19, 20] rfl rfl (by decide))) (fun r w1 h => ?_)
  obtain ⟨rfl, th1, rfl⟩ := h
  exact ⟨_, ⟨rfl, td, th1, rfl⟩, bw_r2 (α := Nat × va_E) (X := bw_XW g a ((q.2.1, x.1.2.1, x.1.2.2.1, x.1.2.2.2.1, x.1.2.2.2.2.1, x.1.2.2.2.2.2.1, x.1.2.2.2.2.2.2.1, x.1.2.2.2.2.2.2.2), x.2.1, x.2.2.1, x.2.2.2.1, x.2.2.2.2.1, x.2.2.2.2.2.1, q.2.2)) (A := [(a 0, .inr (4, [.ref (a 1), .ref (a 7), .ref (a 9), .ref (a 11), .ref (a 12), .ref (a 15), .ref (a 18)])), (a 1, .inr (0, [.ref (a 2), .ref (a 3), .ref (a 4), .ref (a 5), .ref (a 6), .int q.2.1, .int x.1.2.1, .int x.1.2.2.1])), (a 2, .inl (g.2.1, 3, .inl x.1.2.2.2.1)), (a 3, .inl (g.2.1, 6, .inl x.1.2.2.2.2.1)), (a 4, .inl (g.2.1, 36, .inl x.1.2.2.2.2.2.1)), (a 5, .inl (g.2.1, 24, .inl x.1.2.2.2.2.2.2.1)), (a 6, .inl (g.2.1, 24, .inl x.1.2.2.2.2.2.2.2))]) (B := [7, 8, 9, 10, 11, 12, 13, 14, 15, 16, 17, 18, 19, 20].filterMap (fun i => (bw_XW g a x)[i]?)) (s := bw_sw g (a 11) td x.2.2.2.2.2.1) (h := bw_hw g (a 9) (a 10) th1 (((q.2.1, x.1.2.1, x.1.2.2.1, x.1.2.2.2.1, x.1.2.2.2.2.1, x.1.2.2.2.2.2.1, x.1.2.2.2.2.2.2.1, x.1.2.2.2.2.2.2.2), x.2.1, x.2.2.1, x.2.2.2.1, x.2.2.2.2.1, x.2.2.2.2.2.1, q.2.2) : bwX).2.2.2.2.2.2) (bw_pick1 21 [14, 15, 16, 17, 18, 19, 20, 0, 1, 2, 3, 4, 5, 6, 7, 8, 9, 10, 11, 12, 13] rfl rfl (by decide))⟩
def x_give (x : bwX)  : Option (Int32 × bwX) := (f_X4_give x.1.1 x.1.2.1 x.1.2.2.1 x.1.2.2.2.1 x.1.2.2.2.2.1 x.1.2.2.2.2.2.1 x.1.2.2.2.2.2.2.1 x.1.2.2.2.2.2.2.2 x.2.2.1.1 x.2.2.1.2.1 x.2.2.1.2.2.1 x.2.2.1.2.2.2.1 x.2.2.1.2.2.2.2.1 x.2.2.1.2.2.2.2.2.1 x.2.2.1.2.2.2.2.2.2.1 x.2.2.1.2.2.2.2.2.2.2 x.2.2.2.1.1 x.2.2.2.1.2.1 x.2.2.2.1.2.2.1 x.2.2.2.1.2.2.2.1 x.2.2.2.1.2.2.2.2.1 x.2.2.2.1.2.2.2.2.2.1 x.2.2.2.1.2.2.2.2.2.2.1 x.2.2.2.1.2.2.2.2.2.2.2 x.2.2.2.2.2.2 ).bind fun q => some (q.1, ((q.2.1, q.2.2.1, q.2.2.2.1, x.1.2.2.2.1, x.1.2.2.2.2.1, q.2.2.2.2.1, x.1.2.2.2.2.2.2.1, x.1.2.2.2.2.2.2.2), x.2.1, (q.2.2.2.2.2.1, q.2.2.2.2.2.2.1, q.2.2.2.2.2.2.2.1, q.2.2.2.2.2.2.2.2.1, q.2.2.2.2.2.2.2.2.2.1, q.2.2.2.2.2.2.2.2.2.2.1, q.2.2.2.2.2.2.2.2.2.2.2.1, q.2.2.2.2.2.2.2.2.2.2.2.2.1), (q.2.2.2.2.2.2.2.2.2.2.2.2.2.1, q.2.2.2.2.2.2.2.2.2.2.2.2.2.2.1, q.2.2.2.2.2.2.2.2.2.2.2.2.2.2.2.1, q.2.2.2.2.2.2.2.2.2.2.2.2.2.2.2.2.1, q.2.2.2.2.2.2.2.2.2.2.2.2.2.2.2.2.2.1, q.2.2.2.2.2.2.2.2.2.2.2.2.2.2.2.2.2.2.1, q.2.2.2.2.2.2.2.2.2.2.2.2.2.2.2.2.2.2.2.1, q.2.2.2.2.2.2.2.2.2.2.2.2.2.2.2.2.2.2.2.2.1), x.2.2.2.2.1, x.2.2.2.2.2.1, q.2.2.2.2.2.2.2.2.2.2.2.2.2.2.2.2.2.2.2.2.2))
set_option maxHeartbeats 4000000 in
set_option maxRecDepth 100000 in
theorem t_X4_give (l : Launch) (g : bwG) (a : Nat → Nat) (td th : bwHA) (x : bwX)  (res : Int32 × bwX) (hf : x_give x  = some res) : bwS l g yX4_give cX4_give 4 (some .int) ({ frames := 5, cells := 6, slots := 101, locals := 112 } : Room) [.ref (a 0)] (bw_WX g a td th x) (fun r w => r = some (.int res.1) ∧ ∃ td1 th1 : bwHA, w = bw_WX g a td1 th1 res.2) := by
  unfold x_give at hf
  obtain ⟨q, hq, hf⟩ := bw_bind hf
  cases Option.some.inj hf
  refine bwS_frame (s_X4_give l g (a 0) (a 1) (a 7) (a 9) (a 11) (a 12) (a 15) (a 18) (a 2) (a 3) (a 4) (a 5) (a 6) (a 13) (a 14) (a 16) (a 17) (a 10) th x.1.1 x.1.2.1 x.1.2.2.1 x.1.2.2.2.1 x.1.2.2.2.2.1 x.1.2.2.2.2.2.1 x.1.2.2.2.2.2.2.1 x.1.2.2.2.2.2.2.2 x.2.2.1.1 x.2.2.1.2.1 x.2.2.1.2.2.1 x.2.2.1.2.2.2.1 x.2.2.1.2.2.2.2.1 x.2.2.1.2.2.2.2.2.1 x.2.2.1.2.2.2.2.2.2.1 x.2.2.1.2.2.2.2.2.2.2 x.2.2.2.1.1 x.2.2.2.1.2.1 x.2.2.2.1.2.2.1 x.2.2.2.1.2.2.2.1 x.2.2.2.1.2.2.2.2.1 x.2.2.2.1.2.2.2.2.2.1 x.2.2.2.1.2.2.2.2.2.2.1 x.2.2.2.1.2.2.2.2.2.2.2 x.2.2.2.2.2.2  q hq) (bw_q2 (A := [0, 1, 2, 3, 4, 5, 6, 9, 10, 11, 12, 13, 14].filterMap (fun i => (bw_XW g a x)[i]?)) (B := [7, 8, 15, 16, 17, 18, 19, 20].filterMap (fun i => (bw_XW g a x)[i]?)) (s := bw_sw g (a 11) td x.2.2.2.2.2.1) (bw_pick1 21 [0, 1, 2, 3, 4, 5, 6, 9, 10, 11, 12, 13, 14, 7, 8, 15, 16, 17, 18, 19, 20] rfl rfl (by decide))) (fun r w1 h => ?_)
  obtain ⟨rfl, th1, rfl⟩ := h
  exact ⟨_, ⟨rfl, td, th1, rfl⟩, bw_r2 (α := Nat × va_E) (X := bw_XW g a ((q.2.1, q.2.2.1, q.2.2.2.1, x.1.2.2.2.1, x.1.2.2.2.2.1, q.2.2.2.2.1, x.1.2.2.2.2.2.2.1, x.1.2.2.2.2.2.2.2), x.2.1, (q.2.2.2.2.2.1, q.2.2.2.2.2.2.1, q.2.2.2.2.2.2.2.1, q.2.2.2.2.2.2.2.2.1, q.2.2.2.2.2.2.2.2.2.1, q.2.2.2.2.2.2.2.2.2.2.1, q.2.2.2.2.2.2.2.2.2.2.2.1, q.2.2.2.2.2.2.2.2.2.2.2.2.1), (q.2.2.2.2.2.2.2.2.2.2.2.2.2.1, q.2.2.2.2.2.2.2.2.2.2.2.2.2.2.1, q.2.2.2.2.2.2.2.2.2.2.2.2.2.2.2.1, q.2.2.2.2.2.2.2.2.2.2.2.2.2.2.2.2.1, q.2.2.2.2.2.2.2.2.2.2.2.2.2.2.2.2.2.1, q.2.2.2.2.2.2.2.2.2.2.2.2.2.2.2.2.2.2.1, q.2.2.2.2.2.2.2.2.2.2.2.2.2.2.2.2.2.2.2.1, q.2.2.2.2.2.2.2.2.2.2.2.2.2.2.2.2.2.2.2.2.1), x.2.2.2.2.1, x.2.2.2.2.2.1, q.2.2.2.2.2.2.2.2.2.2.2.2.2.2.2.2.2.2.2.2.2)) (A := [(a 0, .inr (4, [.ref (a 1), .ref (a 7), .ref (a 9), .ref (a 11), .ref (a 12), .ref (a 15), .ref (a 18)])), (a 1, .inr (0, [.ref (a 2), .ref (a 3), .ref (a 4), .ref (a 5), .ref (a 6), .int q.2.1, .int q.2.2.1, .int q.2.2.2.1])), (a 2, .inl (g.2.1, 3, .inl x.1.2.2.2.1)), (a 3, .inl (g.2.1, 6, .inl x.1.2.2.2.2.1)), (a 4, .inl (g.2.1, 36, .inl q.2.2.2.2.1)), (a 5, .inl (g.2.1, 24, .inl x.1.2.2.2.2.2.2.1)), (a 6, .inl (g.2.1, 24, .inl x.1.2.2.2.2.2.2.2)), (a 12, .inr (3, [.ref (a 13), .int q.2.2.2.2.2.1, .ref (a 14), .int q.2.2.2.2.2.2.1, .int q.2.2.2.2.2.2.2.1, .int q.2.2.2.2.2.2.2.2.1, .int q.2.2.2.2.2.2.2.2.2.1, .int q.2.2.2.2.2.2.2.2.2.2.1])), (a 13, .inl (g.2.1, 24, .inl q.2.2.2.2.2.2.2.2.2.2.2.1)), (a 14, .inl (g.2.1, 24, .inl q.2.2.2.2.2.2.2.2.2.2.2.2.1)), (a 15, .inr (3, [.ref (a 16), .int q.2.2.2.2.2.2.2.2.2.2.2.2.2.1, .ref (a 17), .int q.2.2.2.2.2.2.2.2.2.2.2.2.2.2.1, .int q.2.2.2.2.2.2.2.2.2.2.2.2.2.2.2.1, .int q.2.2.2.2.2.2.2.2.2.2.2.2.2.2.2.2.1, .int q.2.2.2.2.2.2.2.2.2.2.2.2.2.2.2.2.2.1, .int q.2.2.2.2.2.2.2.2.2.2.2.2.2.2.2.2.2.2.1])), (a 16, .inl (g.2.1, 24, .inl q.2.2.2.2.2.2.2.2.2.2.2.2.2.2.2.2.2.2.2.1)), (a 17, .inl (g.2.1, 24, .inl q.2.2.2.2.2.2.2.2.2.2.2.2.2.2.2.2.2.2.2.2.1))]) (B := [7, 8, 15, 16, 17, 18, 19, 20].filterMap (fun i => (bw_XW g a x)[i]?)) (s := bw_sw g (a 11) td x.2.2.2.2.2.1) (h := bw_hw g (a 9) (a 10) th1 (((q.2.1, q.2.2.1, q.2.2.2.1, x.1.2.2.2.1, x.1.2.2.2.2.1, q.2.2.2.2.1, x.1.2.2.2.2.2.2.1, x.1.2.2.2.2.2.2.2), x.2.1, (q.2.2.2.2.2.1, q.2.2.2.2.2.2.1, q.2.2.2.2.2.2.2.1, q.2.2.2.2.2.2.2.2.1, q.2.2.2.2.2.2.2.2.2.1, q.2.2.2.2.2.2.2.2.2.2.1, q.2.2.2.2.2.2.2.2.2.2.2.1, q.2.2.2.2.2.2.2.2.2.2.2.2.1), (q.2.2.2.2.2.2.2.2.2.2.2.2.2.1, q.2.2.2.2.2.2.2.2.2.2.2.2.2.2.1, q.2.2.2.2.2.2.2.2.2.2.2.2.2.2.2.1, q.2.2.2.2.2.2.2.2.2.2.2.2.2.2.2.2.1, q.2.2.2.2.2.2.2.2.2.2.2.2.2.2.2.2.2.1, q.2.2.2.2.2.2.2.2.2.2.2.2.2.2.2.2.2.2.1, q.2.2.2.2.2.2.2.2.2.2.2.2.2.2.2.2.2.2.2.1, q.2.2.2.2.2.2.2.2.2.2.2.2.2.2.2.2.2.2.2.2.1), x.2.2.2.2.1, x.2.2.2.2.2.1, q.2.2.2.2.2.2.2.2.2.2.2.2.2.2.2.2.2.2.2.2.2) : bwX).2.2.2.2.2.2) (bw_pick1 21 [8, 9, 10, 11, 12, 13, 14, 0, 1, 15, 16, 17, 18, 19, 20, 2, 3, 4, 5, 6, 7] rfl rfl (by decide))⟩
def x_speech (x : bwX) (p0 : Int32) (p1 : Int32) : Option (Int32 × bwX) := (f_X4_speech x.1.1 x.1.2.2.2.1 x.1.2.2.2.2.2.2.1 x.1.2.2.2.2.2.2.2 x.2.2.1.1 x.2.2.1.2.1 x.2.2.1.2.2.1 x.2.2.1.2.2.2.1 x.2.2.1.2.2.2.2.1 x.2.2.1.2.2.2.2.2.1 x.2.2.1.2.2.2.2.2.2.1 x.2.2.1.2.2.2.2.2.2.2 p0 p1).bind fun q => some (q.1, (x.1, x.2.1, (q.2.1, q.2.2.1, q.2.2.2.1, q.2.2.2.2.1, q.2.2.2.2.2.1, q.2.2.2.2.2.2.1, q.2.2.2.2.2.2.2.1, q.2.2.2.2.2.2.2.2), x.2.2.2.1, x.2.2.2.2.1, x.2.2.2.2.2.1, x.2.2.2.2.2.2))
set_option maxHeartbeats 4000000 in
set_option maxRecDepth 100000 in
theorem t_X4_speech (l : Launch) (g : bwG) (a : Nat → Nat) (td th : bwHA) (x : bwX) (p0 : Int32) (p1 : Int32) (res : Int32 × bwX) (hf : x_speech x p0 p1 = some res) : bwS l g yX4_speech cX4_speech 3 (some .int) ({ frames := 4, cells := 0, slots := 0, locals := 91 } : Room) [.ref (a 0), .int p0, .int p1] (bw_WX g a td th x) (fun r w => r = some (.int res.1) ∧ ∃ td1 th1 : bwHA, w = bw_WX g a td1 th1 res.2) := by
  unfold x_speech at hf
  obtain ⟨q, hq, hf⟩ := bw_bind hf
  cases Option.some.inj hf
  refine bwS_frame (s_X4_speech l g (a 0) (a 1) (a 7) (a 9) (a 11) (a 12) (a 15) (a 18) (a 2) (a 3) (a 4) (a 5) (a 6) (a 13) (a 14) x.1.1 x.1.2.1 x.1.2.2.1 x.1.2.2.2.1 x.1.2.2.2.2.2.2.1 x.1.2.2.2.2.2.2.2 x.2.2.1.1 x.2.2.1.2.1 x.2.2.1.2.2.1 x.2.2.1.2.2.2.1 x.2.2.1.2.2.2.2.1 x.2.2.1.2.2.2.2.2.1 x.2.2.1.2.2.2.2.2.2.1 x.2.2.1.2.2.2.2.2.2.2 p0 p1 q hq) (bw_q1 (bw_pick1 (X := bw_XW g a x) 21 [0, 1, 2, 5, 6, 9, 10, 11, 3, 4, 7, 8, 12, 13, 14, 15, 16, 17, 18, 19, 20] rfl rfl (by decide))) (fun r w1 h => ?_)
  obtain ⟨rfl, rfl⟩ := h
  exact ⟨_, ⟨rfl, td, th, rfl⟩, bw_r1 (bw_pick1 21 [13, 14, 15, 0, 1, 16, 17, 2, 3, 18, 19, 20, 4, 5, 6, 7, 8, 9, 10, 11, 12] rfl rfl (by decide))⟩
def x_word (x : bwX) (p0 : Int32) (p1 : Int32) : Option (Int32 × bwX) := (f_X4_word x.1.1 x.1.2.2.2.1 x.1.2.2.2.2.2.2.1 x.1.2.2.2.2.2.2.2 x.2.2.1.1 x.2.2.1.2.1 x.2.2.1.2.2.1 x.2.2.1.2.2.2.1 x.2.2.1.2.2.2.2.1 x.2.2.1.2.2.2.2.2.1 x.2.2.1.2.2.2.2.2.2.1 x.2.2.1.2.2.2.2.2.2.2 p0 p1).bind fun q => some (q.1, (x.1, x.2.1, (q.2.1, q.2.2.1, q.2.2.2.1, q.2.2.2.2.1, q.2.2.2.2.2.1, q.2.2.2.2.2.2.1, q.2.2.2.2.2.2.2.1, q.2.2.2.2.2.2.2.2), x.2.2.2.1, x.2.2.2.2.1, x.2.2.2.2.2.1, x.2.2.2.2.2.2))
set_option maxHeartbeats 4000000 in
set_option maxRecDepth 100000 in
theorem t_X4_word (l : Launch) (g : bwG) (a : Nat → Nat) (td th : bwHA) (x : bwX) (p0 : Int32) (p1 : Int32) (res : Int32 × bwX) (hf : x_word x p0 p1 = some res) : bwS l g yX4_word cX4_word 3 (some .int) ({ frames := 4, cells := 0, slots := 0, locals := 91 } : Room) [.ref (a 0), .int p0, .int p1] (bw_WX g a td th x) (fun r w => r = some (.int res.1) ∧ ∃ td1 th1 : bwHA, w = bw_WX g a td1 th1 res.2) := by
  unfold x_word at hf
  obtain ⟨q, hq, hf⟩ := bw_bind hf
  cases Option.some.inj hf
  refine bwS_frame (s_X4_word l g (a 0) (a 1) (a 7) (a 9) (a 11) (a 12) (a 15) (a 18) (a 2) (a 3) (a 4) (a 5) (a 6) (a 13) (a 14) x.1.1 x.1.2.1 x.1.2.2.1 x.1.2.2.2.1 x.1.2.2.2.2.2.2.1 x.1.2.2.2.2.2.2.2 x.2.2.1.1 x.2.2.1.2.1 x.2.2.1.2.2.1 x.2.2.1.2.2.2.1 x.2.2.1.2.2.2.2.1 x.2.2.1.2.2.2.2.2.1 x.2.2.1.2.2.2.2.2.2.1 x.2.2.1.2.2.2.2.2.2.2 p0 p1 q hq) (bw_q1 (bw_pick1 (X := bw_XW g a x) 21 [0, 1, 2, 5, 6, 9, 10, 11, 3, 4, 7, 8, 12, 13, 14, 15, 16, 17, 18, 19, 20] rfl rfl (by decide))) (fun r w1 h => ?_)
  obtain ⟨rfl, rfl⟩ := h
  exact ⟨_, ⟨rfl, td, th, rfl⟩, bw_r1 (bw_pick1 21 [13, 14, 15, 0, 1, 16, 17, 2, 3, 18, 19, 20, 4, 5, 6, 7, 8, 9, 10, 11, 12] rfl rfl (by decide))⟩
def x_sentence (x : bwX) (p0 : Int32) (p1 : Int32) (p2 : Int32) : Option (Int32 × bwX) := (f_X4_sentence x.1.1 x.1.2.2.2.1 x.1.2.2.2.2.2.2.1 x.1.2.2.2.2.2.2.2 x.2.2.1.1 x.2.2.1.2.1 x.2.2.1.2.2.1 x.2.2.1.2.2.2.1 x.2.2.1.2.2.2.2.1 x.2.2.1.2.2.2.2.2.1 x.2.2.1.2.2.2.2.2.2.1 x.2.2.1.2.2.2.2.2.2.2 p0 p1 p2).bind fun q => some (q.1, (x.1, x.2.1, (q.2.1, q.2.2.1, q.2.2.2.1, q.2.2.2.2.1, q.2.2.2.2.2.1, q.2.2.2.2.2.2.1, q.2.2.2.2.2.2.2.1, q.2.2.2.2.2.2.2.2), x.2.2.2.1, x.2.2.2.2.1, x.2.2.2.2.2.1, x.2.2.2.2.2.2))
set_option maxHeartbeats 4000000 in
set_option maxRecDepth 100000 in
theorem t_X4_sentence (l : Launch) (g : bwG) (a : Nat → Nat) (td th : bwHA) (x : bwX) (p0 : Int32) (p1 : Int32) (p2 : Int32) (res : Int32 × bwX) (hf : x_sentence x p0 p1 p2 = some res) : bwS l g yX4_sentence cX4_sentence 4 (some .int) ({ frames := 4, cells := 0, slots := 0, locals := 91 } : Room) [.ref (a 0), .int p0, .int p1, .int p2] (bw_WX g a td th x) (fun r w => r = some (.int res.1) ∧ ∃ td1 th1 : bwHA, w = bw_WX g a td1 th1 res.2) := by
  unfold x_sentence at hf
  obtain ⟨q, hq, hf⟩ := bw_bind hf
  cases Option.some.inj hf
  refine bwS_frame (s_X4_sentence l g (a 0) (a 1) (a 7) (a 9) (a 11) (a 12) (a 15) (a 18) (a 2) (a 3) (a 4) (a 5) (a 6) (a 13) (a 14) x.1.1 x.1.2.1 x.1.2.2.1 x.1.2.2.2.1 x.1.2.2.2.2.2.2.1 x.1.2.2.2.2.2.2.2 x.2.2.1.1 x.2.2.1.2.1 x.2.2.1.2.2.1 x.2.2.1.2.2.2.1 x.2.2.1.2.2.2.2.1 x.2.2.1.2.2.2.2.2.1 x.2.2.1.2.2.2.2.2.2.1 x.2.2.1.2.2.2.2.2.2.2 p0 p1 p2 q hq) (bw_q1 (bw_pick1 (X := bw_XW g a x) 21 [0, 1, 2, 5, 6, 9, 10, 11, 3, 4, 7, 8, 12, 13, 14, 15, 16, 17, 18, 19, 20] rfl rfl (by decide))) (fun r w1 h => ?_)
  obtain ⟨rfl, rfl⟩ := h
  exact ⟨_, ⟨rfl, td, th, rfl⟩, bw_r1 (bw_pick1 21 [13, 14, 15, 0, 1, 16, 17, 2, 3, 18, 19, 20, 4, 5, 6, 7, 8, 9, 10, 11, 12] rfl rfl (by decide))⟩
def x_favour (x : bwX) (p0 : Int32) (p1 : Int32) : Option (Int32 × bwX) := (f_X4_favour x.1.2.2.2.2.2.1 p0 p1).bind fun q => some (q, x)
set_option maxHeartbeats 4000000 in
set_option maxRecDepth 100000 in
theorem t_X4_favour (l : Launch) (g : bwG) (a : Nat → Nat) (td th : bwHA) (x : bwX) (p0 : Int32) (p1 : Int32) (res : Int32 × bwX) (hf : x_favour x p0 p1 = some res) : bwS l g yX4_favour cX4_favour 3 (some .int) ({ frames := 1, cells := 0, slots := 0, locals := 21 } : Room) [.ref (a 0), .int p0, .int p1] (bw_WX g a td th x) (fun r w => r = some (.int res.1) ∧ ∃ td1 th1 : bwHA, w = bw_WX g a td1 th1 res.2) := by
  unfold x_favour at hf
  obtain ⟨q, hq, hf⟩ := bw_bind hf
  cases Option.some.inj hf
  refine bwS_frame (s_X4_favour l g (a 0) (a 1) (a 7) (a 9) (a 11) (a 12) (a 15) (a 18) (a 2) (a 3) (a 4) (a 5) (a 6) x.1.1 x.1.2.1 x.1.2.2.1 x.1.2.2.2.2.2.1 p0 p1 q hq) (bw_q1 (bw_pick1 (X := bw_XW g a x) 21 [0, 1, 4, 2, 3, 5, 6, 7, 8, 9, 10, 11, 12, 13, 14, 15, 16, 17, 18, 19, 20] rfl rfl (by decide))) (fun r w1 h => ?_)
  obtain ⟨rfl, rfl⟩ := h
  exact ⟨_, ⟨rfl, td, th, rfl⟩, bw_r1 (bw_pick1 21 [18, 19, 0, 1, 20, 2, 3, 4, 5, 6, 7, 8, 9, 10, 11, 12, 13, 14, 15, 16, 17] rfl rfl (by decide))⟩
def x_count (x : bwX) (p0 : Int32) : Option (Int32 × bwX) := (f_X4_count x.1.1 x.1.2.1 x.1.2.2.1 x.1.2.2.2.1 x.1.2.2.2.2.1 x.1.2.2.2.2.2.1 x.1.2.2.2.2.2.2.1 x.1.2.2.2.2.2.2.2 x.2.1.1 x.2.2.2.2.2.2.2.1 x.2.2.1.1 x.2.2.1.2.1 x.2.2.1.2.2.1 x.2.2.1.2.2.2.1 x.2.2.1.2.2.2.2.1 x.2.2.1.2.2.2.2.2.1 x.2.2.1.2.2.2.2.2.2.1 x.2.2.1.2.2.2.2.2.2.2 x.2.2.2.1.1 x.2.2.2.1.2.1 x.2.2.2.1.2.2.1 x.2.2.2.1.2.2.2.1 x.2.2.2.1.2.2.2.2.1 x.2.2.2.1.2.2.2.2.2.1 x.2.2.2.1.2.2.2.2.2.2.1 x.2.2.2.1.2.2.2.2.2.2.2 p0).bind fun q => some (q.1, (x.1, x.2.1, (q.2.1, q.2.2.1, q.2.2.2.1, q.2.2.2.2.1, q.2.2.2.2.2.1, q.2.2.2.2.2.2.1, q.2.2.2.2.2.2.2.1, q.2.2.2.2.2.2.2.2.1), (q.2.2.2.2.2.2.2.2.2.1, q.2.2.2.2.2.2.2.2.2.2.1, q.2.2.2.2.2.2.2.2.2.2.2.1, q.2.2.2.2.2.2.2.2.2.2.2.2.1, q.2.2.2.2.2.2.2.2.2.2.2.2.2.1, q.2.2.2.2.2.2.2.2.2.2.2.2.2.2.1, q.2.2.2.2.2.2.2.2.2.2.2.2.2.2.2.1, q.2.2.2.2.2.2.2.2.2.2.2.2.2.2.2.2), x.2.2.2.2.1, x.2.2.2.2.2.1, x.2.2.2.2.2.2))
set_option maxHeartbeats 4000000 in
set_option maxRecDepth 100000 in
theorem t_X4_count (l : Launch) (g : bwG) (a : Nat → Nat) (td th : bwHA) (x : bwX) (p0 : Int32) (res : Int32 × bwX) (hf : x_count x p0 = some res) : bwS l g yX4_count cX4_count 2 (some .int) ({ frames := 6, cells := 0, slots := 0, locals := 134 } : Room) [.ref (a 0), .int p0] (bw_WX g a td th x) (fun r w => r = some (.int res.1) ∧ ∃ td1 th1 : bwHA, w = bw_WX g a td1 th1 res.2) := by
  unfold x_count at hf
  obtain ⟨q, hq, hf⟩ := bw_bind hf
  cases Option.some.inj hf
  refine bwS_frame (wr := _) (s_X4_count l g (a 0) (a 1) (a 7) (a 9) (a 11) (a 12) (a 15) (a 18) (a 2) (a 3) (a 4) (a 5) (a 6) (a 8) (a 10) (a 13) (a 14) (a 16) (a 17) x.1.1 x.1.2.1 x.1.2.2.1 x.1.2.2.2.1 x.1.2.2.2.2.1 x.1.2.2.2.2.2.1 x.1.2.2.2.2.2.2.1 x.1.2.2.2.2.2.2.2 x.2.1.1 x.2.2.2.2.2.2.1 x.2.2.2.2.2.2.2.1 x.2.2.1.1 x.2.2.1.2.1 x.2.2.1.2.2.1 x.2.2.1.2.2.2.1 x.2.2.1.2.2.2.2.1 x.2.2.1.2.2.2.2.2.1 x.2.2.1.2.2.2.2.2.2.1 x.2.2.1.2.2.2.2.2.2.2 x.2.2.2.1.1 x.2.2.2.1.2.1 x.2.2.2.1.2.2.1 x.2.2.2.1.2.2.2.1 x.2.2.2.1.2.2.2.2.1 x.2.2.2.1.2.2.2.2.2.1 x.2.2.2.1.2.2.2.2.2.2.1 x.2.2.2.1.2.2.2.2.2.2.2 p0 q hq) ((bw_q1 (bw_pick1 (X := bw_XW g a x ++ [(a 9, .inr (1, [.ref (a 10), .int x.2.2.2.2.2.2.1, .int x.2.2.2.2.2.2.2.1]))]) 22 [0, 1, 2, 3, 4, 5, 6, 7, 21, 9, 10, 11, 12, 13, 14, 8, 15, 16, 17, 18, 19, 20] rfl rfl (by decide))).trans (bw_hd _).symm) (fun r w1 h => ?_)
  obtain ⟨rfl, rfl⟩ := h
  exact ⟨_, ⟨rfl, td, th, rfl⟩, (bw_hd _).trans (bw_r1 (bw_pick1 22 [7, 8, 9, 10, 11, 12, 13, 14, 0, 16, 17, 18, 19, 20, 21, 1, 2, 3, 4, 5, 6, 15] rfl rfl (by decide)))⟩
def x_courtier (x : bwX) (p0 : Int32) (p1 : Int32) : Option (Int32 × bwX) := (f_X4_courtier x.1.1 x.1.2.2.2.1 x.1.2.2.2.2.1 x.1.2.2.2.2.2.1 x.1.2.2.2.2.2.2.1 x.1.2.2.2.2.2.2.2 x.2.2.1.1 x.2.2.1.2.1 x.2.2.1.2.2.1 x.2.2.1.2.2.2.1 x.2.2.1.2.2.2.2.1 x.2.2.1.2.2.2.2.2.1 x.2.2.1.2.2.2.2.2.2.1 x.2.2.1.2.2.2.2.2.2.2 x.2.2.2.1.1 x.2.2.2.1.2.1 x.2.2.2.1.2.2.1 x.2.2.2.1.2.2.2.1 x.2.2.2.1.2.2.2.2.1 x.2.2.2.1.2.2.2.2.2.1 x.2.2.2.1.2.2.2.2.2.2.1 x.2.2.2.1.2.2.2.2.2.2.2 p0 p1).bind fun q => some (q.1, (x.1, x.2.1, (q.2.1, q.2.2.1, q.2.2.2.1, q.2.2.2.2.1, q.2.2.2.2.2.1, q.2.2.2.2.2.2.1, q.2.2.2.2.2.2.2.1, q.2.2.2.2.2.2.2.2.1), (q.2.2.2.2.2.2.2.2.2.1, q.2.2.2.2.2.2.2.2.2.2.1, q.2.2.2.2.2.2.2.2.2.2.2.1, q.2.2.2.2.2.2.2.2.2.2.2.2.1, q.2.2.2.2.2.2.2.2.2.2.2.2.2.1, q.2.2.2.2.2.2.2.2.2.2.2.2.2.2.1, q.2.2.2.2.2.2.2.2.2.2.2.2.2.2.2.1, q.2.2.2.2.2.2.2.2.2.2.2.2.2.2.2.2), x.2.2.2.2.1, x.2.2.2.2.2.1, x.2.2.2.2.2.2))
set_option maxHeartbeats 4000000 in
set_option maxRecDepth 100000 in
theorem t_X4_courtier (l : Launch) (g : bwG) (a : Nat → Nat) (td th : bwHA) (x : bwX) (p0 : Int32) (p1 : Int32) (res : Int32 × bwX) (hf : x_courtier x p0 p1 = some res) : bwS l g yX4_courtier cX4_courtier 3 (some .int) ({ frames := 6, cells := 0, slots := 0, locals := 133 } : Room) [.ref (a 0), .int p0, .int p1] (bw_WX g a td th x) (fun r w => r = some (.int res.1) ∧ ∃ td1 th1 : bwHA, w = bw_WX g a td1 th1 res.2) := by
  unfold x_courtier at hf
  obtain ⟨q, hq, hf⟩ := bw_bind hf
  cases Option.some.inj hf
  refine bwS_frame (s_X4_courtier l g (a 0) (a 1) (a 7) (a 9) (a 11) (a 12) (a 15) (a 18) (a 2) (a 3) (a 4) (a 5) (a 6) (a 13) (a 14) (a 16) (a 17) x.1.1 x.1.2.1 x.1.2.2.1 x.1.2.2.2.1 x.1.2.2.2.2.1 x.1.2.2.2.2.2.1 x.1.2.2.2.2.2.2.1 x.1.2.2.2.2.2.2.2 x.2.2.1.1 x.2.2.1.2.1 x.2.2.1.2.2.1 x.2.2.1.2.2.2.1 x.2.2.1.2.2.2.2.1 x.2.2.1.2.2.2.2.2.1 x.2.2.1.2.2.2.2.2.2.1 x.2.2.1.2.2.2.2.2.2.2 x.2.2.2.1.1 x.2.2.2.1.2.1 x.2.2.2.1.2.2.1 x.2.2.2.1.2.2.2.1 x.2.2.2.1.2.2.2.2.1 x.2.2.2.1.2.2.2.2.2.1 x.2.2.2.1.2.2.2.2.2.2.1 x.2.2.2.1.2.2.2.2.2.2.2 p0 p1 q hq) (bw_q1 (bw_pick1 (X := bw_XW g a x) 21 [0, 1, 2, 3, 4, 5, 6, 9, 10, 11, 12, 13, 14, 7, 8, 15, 16, 17, 18, 19, 20] rfl rfl (by decide))) (fun r w1 h => ?_)
  obtain ⟨rfl, rfl⟩ := h
  exact ⟨_, ⟨rfl, td, th, rfl⟩, bw_r1 (bw_pick1 21 [8, 9, 10, 11, 12, 13, 14, 0, 1, 15, 16, 17, 18, 19, 20, 2, 3, 4, 5, 6, 7] rfl rfl (by decide))⟩
def x_ifGiven (x : bwX) (p0 : Int32) (p1 : Int32) : Option (Int32 × bwX) := (f_X4_ifGiven x.1.1 x.1.2.2.2.1 x.1.2.2.2.2.1 x.1.2.2.2.2.2.1 x.1.2.2.2.2.2.2.1 x.1.2.2.2.2.2.2.2 x.2.2.1.1 x.2.2.1.2.1 x.2.2.1.2.2.1 x.2.2.1.2.2.2.1 x.2.2.1.2.2.2.2.1 x.2.2.1.2.2.2.2.2.1 x.2.2.1.2.2.2.2.2.2.1 x.2.2.1.2.2.2.2.2.2.2 x.2.2.2.1.1 x.2.2.2.1.2.1 x.2.2.2.1.2.2.1 x.2.2.2.1.2.2.2.1 x.2.2.2.1.2.2.2.2.1 x.2.2.2.1.2.2.2.2.2.1 x.2.2.2.1.2.2.2.2.2.2.1 x.2.2.2.1.2.2.2.2.2.2.2 p0 p1).bind fun q => some (q.1, (x.1, x.2.1, (q.2.1, q.2.2.1, q.2.2.2.1, q.2.2.2.2.1, q.2.2.2.2.2.1, q.2.2.2.2.2.2.1, q.2.2.2.2.2.2.2.1, q.2.2.2.2.2.2.2.2.1), (q.2.2.2.2.2.2.2.2.2.1, q.2.2.2.2.2.2.2.2.2.2.1, q.2.2.2.2.2.2.2.2.2.2.2.1, q.2.2.2.2.2.2.2.2.2.2.2.2.1, q.2.2.2.2.2.2.2.2.2.2.2.2.2.1, q.2.2.2.2.2.2.2.2.2.2.2.2.2.2.1, q.2.2.2.2.2.2.2.2.2.2.2.2.2.2.2.1, q.2.2.2.2.2.2.2.2.2.2.2.2.2.2.2.2), x.2.2.2.2.1, x.2.2.2.2.2.1, x.2.2.2.2.2.2))
set_option maxHeartbeats 4000000 in
set_option maxRecDepth 100000 in
theorem t_X4_ifGiven (l : Launch) (g : bwG) (a : Nat → Nat) (td th : bwHA) (x : bwX) (p0 : Int32) (p1 : Int32) (res : Int32 × bwX) (hf : x_ifGiven x p0 p1 = some res) : bwS l g yX4_ifGiven cX4_ifGiven 3 (some .int) ({ frames := 5, cells := 0, slots := 0, locals := 112 } : Room) [.ref (a 0), .int p0, .int p1] (bw_WX g a td th x) (fun r w => r = some (.int res.1) ∧ ∃ td1 th1 : bwHA, w = bw_WX g a td1 th1 res.2) := by
  unfold x_ifGiven at hf
  obtain ⟨q, hq, hf⟩ := bw_bind hf
  cases Option.some.inj hf
  refine bwS_frame (s_X4_ifGiven l g (a 0) (a 1) (a 7) (a 9) (a 11) (a 12) (a 15) (a 18) (a 2) (a 3) (a 4) (a 5) (a 6) (a 13) (a 14) (a 16) (a 17) x.1.1 x.1.2.1 x.1.2.2.1 x.1.2.2.2.1 x.1.2.2.2.2.1 x.1.2.2.2.2.2.1 x.1.2.2.2.2.2.2.1 x.1.2.2.2.2.2.2.2 x.2.2.1.1 x.2.2.1.2.1 x.2.2.1.2.2.1 x.2.2.1.2.2.2.1 x.2.2.1.2.2.2.2.1 x.2.2.1.2.2.2.2.2.1 x.2.2.1.2.2.2.2.2.2.1 x.2.2.1.2.2.2.2.2.2.2 x.2.2.2.1.1 x.2.2.2.1.2.1 x.2.2.2.1.2.2.1 x.2.2.2.1.2.2.2.1 x.2.2.2.1.2.2.2.2.1 x.2.2.2.1.2.2.2.2.2.1 x.2.2.2.1.2.2.2.2.2.2.1 x.2.2.2.1.2.2.2.2.2.2.2 p0 p1 q hq) (bw_q1 (bw_pick1 (X := bw_XW g a x) 21 [0, 1, 2, 3, 4, 5, 6, 9, 10, 11, 12, 13, 14, 7, 8, 15, 16, 17, 18, 19, 20] rfl rfl (by decide))) (fun r w1 h => ?_)
  obtain ⟨rfl, rfl⟩ := h
  exact ⟨_, ⟨rfl, td, th, rfl⟩, bw_r1 (bw_pick1 21 [8, 9, 10, 11, 12, 13, 14, 0, 1, 15, 16, 17, 18, 19, 20, 2, 3, 4, 5, 6, 7] rfl rfl (by decide))⟩
def x_bestBow (x : bwX)  : Option (Int32 × bwX) := (f_X4_bestBow x.1.1 x.1.2.1 x.1.2.2.1 x.1.2.2.2.1 x.1.2.2.2.2.1 x.1.2.2.2.2.2.1 x.1.2.2.2.2.2.2.1 x.1.2.2.2.2.2.2.2 x.2.2.1.1 x.2.2.1.2.1 x.2.2.1.2.2.1 x.2.2.1.2.2.2.1 x.2.2.1.2.2.2.2.1 x.2.2.1.2.2.2.2.2.1 x.2.2.1.2.2.2.2.2.2.1 x.2.2.1.2.2.2.2.2.2.2 x.2.2.2.1.1 x.2.2.2.1.2.1 x.2.2.2.1.2.2.1 x.2.2.2.1.2.2.2.1 x.2.2.2.1.2.2.2.2.1 x.2.2.2.1.2.2.2.2.2.1 x.2.2.2.1.2.2.2.2.2.2.1 x.2.2.2.1.2.2.2.2.2.2.2 x.2.2.2.2.1.1 x.2.2.2.2.1.2.1 x.2.2.2.2.1.2.2.1 x.2.2.2.2.1.2.2.2.1 x.2.2.2.2.1.2.2.2.2.1 x.2.2.2.2.1.2.2.2.2.2.1 x.2.2.2.2.1.2.2.2.2.2.2.1 x.2.2.2.2.1.2.2.2.2.2.2.2 ).bind fun q => some (q.1, (x.1, x.2.1, (q.2.1, q.2.2.1, q.2.2.2.1, q.2.2.2.2.1, q.2.2.2.2.2.1, q.2.2.2.2.2.2.1, q.2.2.2.2.2.2.2.1, q.2.2.2.2.2.2.2.2.1), (q.2.2.2.2.2.2.2.2.2.1, q.2.2.2.2.2.2.2.2.2.2.1, q.2.2.2.2.2.2.2.2.2.2.2.1, q.2.2.2.2.2.2.2.2.2.2.2.2.1, q.2.2.2.2.2.2.2.2.2.2.2.2.2.1, q.2.2.2.2.2.2.2.2.2.2.2.2.2.2.1, q.2.2.2.2.2.2.2.2.2.2.2.2.2.2.2.1, q.2.2.2.2.2.2.2.2.2.2.2.2.2.2.2.2.1), (q.2.2.2.2.2.2.2.2.2.2.2.2.2.2.2.2.2.1, q.2.2.2.2.2.2.2.2.2.2.2.2.2.2.2.2.2.2.1, q.2.2.2.2.2.2.2.2.2.2.2.2.2.2.2.2.2.2.2.1, q.2.2.2.2.2.2.2.2.2.2.2.2.2.2.2.2.2.2.2.2.1, q.2.2.2.2.2.2.2.2.2.2.2.2.2.2.2.2.2.2.2.2.2.1, q.2.2.2.2.2.2.2.2.2.2.2.2.2.2.2.2.2.2.2.2.2.2.1, q.2.2.2.2.2.2.2.2.2.2.2.2.2.2.2.2.2.2.2.2.2.2.2.1, q.2.2.2.2.2.2.2.2.2.2.2.2.2.2.2.2.2.2.2.2.2.2.2.2), x.2.2.2.2.2.1, x.2.2.2.2.2.2))
set_option maxHeartbeats 4000000 in
set_option maxRecDepth 100000 in
theorem t_X4_bestBow (l : Launch) (g : bwG) (a : Nat → Nat) (td th : bwHA) (x : bwX)  (res : Int32 × bwX) (hf : x_bestBow x  = some res) : bwS l g yX4_bestBow cX4_bestBow 4 (some .int) ({ frames := 4, cells := 0, slots := 0, locals := 91 } : Room) [.ref (a 0)] (bw_WX g a td th x) (fun r w => r = some (.int res.1) ∧ ∃ td1 th1 : bwHA, w = bw_WX g a td1 th1 res.2) := by
  unfold x_bestBow at hf
  obtain ⟨q, hq, hf⟩ := bw_bind hf
  cases Option.some.inj hf
  refine bwS_frame (s_X4_bestBow l g (a 0) (a 1) (a 7) (a 9) (a 11) (a 12) (a 15) (a 18) (a 2) (a 3) (a 4) (a 5) (a 6) (a 13) (a 14) (a 16) (a 17) (a 19) (a 20) (a 21) (a 22) (a 23) x.1.1 x.1.2.1 x.1.2.2.1 x.1.2.2.2.1 x.1.2.2.2.2.1 x.1.2.2.2.2.2.1 x.1.2.2.2.2.2.2.1 x.1.2.2.2.2.2.2.2 x.2.2.1.1 x.2.2.1.2.1 x.2.2.1.2.2.1 x.2.2.1.2.2.2.1 x.2.2.1.2.2.2.2.1 x.2.2.1.2.2.2.2.2.1 x.2.2.1.2.2.2.2.2.2.1 x.2.2.1.2.2.2.2.2.2.2 x.2.2.2.1.1 x.2.2.2.1.2.1 x.2.2.2.1.2.2.1 x.2.2.2.1.2.2.2.1 x.2.2.2.1.2.2.2.2.1 x.2.2.2.1.2.2.2.2.2.1 x.2.2.2.1.2.2.2.2.2.2.1 x.2.2.2.1.2.2.2.2.2.2.2 x.2.2.2.2.1.1 x.2.2.2.2.1.2.1 x.2.2.2.2.1.2.2.1 x.2.2.2.2.1.2.2.2.1 x.2.2.2.2.1.2.2.2.2.1 x.2.2.2.2.1.2.2.2.2.2.1 x.2.2.2.2.1.2.2.2.2.2.2.1 x.2.2.2.2.1.2.2.2.2.2.2.2  q hq) (bw_q1 (bw_pick1 (X := bw_XW g a x) 21 [0, 1, 2, 3, 4, 5, 6, 9, 10, 11, 12, 13, 14, 15, 16, 17, 18, 19, 20, 7, 8] rfl rfl (by decide))) (fun r w1 h => ?_)
  obtain ⟨rfl, rfl⟩ := h
  exact ⟨_, ⟨rfl, td, th, rfl⟩, bw_r1 (bw_pick1 21 [2, 3, 4, 5, 6, 7, 8, 0, 1, 9, 10, 11, 12, 13, 14, 15, 16, 17, 18, 19, 20] rfl rfl (by decide))⟩
def x_darling (x : bwX)  : Option (Int32 × bwX) := (f_X4_darling x.1.2.2.2.2.2.1 ).bind fun q => some (q, x)
set_option maxHeartbeats 4000000 in
set_option maxRecDepth 100000 in
theorem t_X4_darling (l : Launch) (g : bwG) (a : Nat → Nat) (td th : bwHA) (x : bwX)  (res : Int32 × bwX) (hf : x_darling x  = some res) : bwS l g yX4_darling cX4_darling 3 (some .int) ({ frames := 2, cells := 0, slots := 0, locals := 44 } : Room) [.ref (a 0)] (bw_WX g a td th x) (fun r w => r = some (.int res.1) ∧ ∃ td1 th1 : bwHA, w = bw_WX g a td1 th1 res.2) := by
  unfold x_darling at hf
  obtain ⟨q, hq, hf⟩ := bw_bind hf
  cases Option.some.inj hf
  refine bwS_frame (s_X4_darling l g (a 0) (a 1) (a 7) (a 9) (a 11) (a 12) (a 15) (a 18) (a 2) (a 3) (a 4) (a 5) (a 6) x.1.1 x.1.2.1 x.1.2.2.1 x.1.2.2.2.2.2.1  q hq) (bw_q1 (bw_pick1 (X := bw_XW g a x) 21 [0, 1, 4, 2, 3, 5, 6, 7, 8, 9, 10, 11, 12, 13, 14, 15, 16, 17, 18, 19, 20] rfl rfl (by decide))) (fun r w1 h => ?_)
  obtain ⟨rfl, rfl⟩ := h
  exact ⟨_, ⟨rfl, td, th, rfl⟩, bw_r1 (bw_pick1 21 [18, 19, 0, 1, 20, 2, 3, 4, 5, 6, 7, 8, 9, 10, 11, 12, 13, 14, 15, 16, 17] rfl rfl (by decide))⟩
def x_put (x : bwX) (p0 : Int64) : Option (Int32 × bwX) := (f_X4_put x.2.1.1 x.2.1.2 p0).bind fun q => some (q.1, (x.1, (q.2.1, q.2.2), x.2.2.1, x.2.2.2.1, x.2.2.2.2.1, x.2.2.2.2.2.1, x.2.2.2.2.2.2))
set_option maxHeartbeats 4000000 in
set_option maxRecDepth 100000 in
theorem t_X4_put (l : Launch) (g : bwG) (a : Nat → Nat) (td th : bwHA) (x : bwX) (p0 : Int64) (res : Int32 × bwX) (hf : x_put x p0 = some res) : bwS l g yX4_put cX4_put 5 (some .int) ({ frames := 2, cells := 0, slots := 0, locals := 45 } : Room) [.ref (a 0), .long p0] (bw_WX g a td th x) (fun r w => r = some (.int res.1) ∧ ∃ td1 th1 : bwHA, w = bw_WX g a td1 th1 res.2) := by
  unfold x_put at hf
  obtain ⟨q, hq, hf⟩ := bw_bind hf
  cases Option.some.inj hf
  refine bwS_frame (s_X4_put l g (a 0) (a 1) (a 7) (a 9) (a 11) (a 12) (a 15) (a 18) (a 8) x.2.1.1 x.2.1.2 p0 q hq) (bw_q1 (bw_pick1 (X := bw_XW g a x) 21 [0, 7, 8, 1, 2, 3, 4, 5, 6, 9, 10, 11, 12, 13, 14, 15, 16, 17, 18, 19, 20] rfl rfl (by decide))) (fun r w1 h => ?_)
  obtain ⟨rfl, rfl⟩ := h
  exact ⟨_, ⟨rfl, td, th, rfl⟩, bw_r1 (bw_pick1 21 [18, 0, 1, 2, 3, 4, 5, 19, 20, 6, 7, 8, 9, 10, 11, 12, 13, 14, 15, 16, 17] rfl rfl (by decide))⟩
def x_wipe (x : bwX)  : Option (Int32 × bwX) := (f_X4_wipe x.2.1.1 ).bind fun q => some (q.1, (x.1, (q.2, x.2.1.2), x.2.2.1, x.2.2.2.1, x.2.2.2.2.1, x.2.2.2.2.2.1, x.2.2.2.2.2.2))
set_option maxHeartbeats 4000000 in
set_option maxRecDepth 100000 in
theorem t_X4_wipe (l : Launch) (g : bwG) (a : Nat → Nat) (td th : bwHA) (x : bwX)  (res : Int32 × bwX) (hf : x_wipe x  = some res) : bwS l g yX4_wipe cX4_wipe 2 (some .int) ({ frames := 0, cells := 0, slots := 0, locals := 0 } : Room) [.ref (a 0)] (bw_WX g a td th x) (fun r w => r = some (.int res.1) ∧ ∃ td1 th1 : bwHA, w = bw_WX g a td1 th1 res.2) := by
  unfold x_wipe at hf
  obtain ⟨q, hq, hf⟩ := bw_bind hf
  cases Option.some.inj hf
  refine bwS_frame (s_X4_wipe l g (a 0) (a 1) (a 7) (a 9) (a 11) (a 12) (a 15) (a 18) (a 8) x.2.1.1  q hq) (bw_q1 (bw_pick1 (X := bw_XW g a x) 21 [0, 7, 1, 2, 3, 4, 5, 6, 8, 9, 10, 11, 12, 13, 14, 15, 16, 17, 18, 19, 20] rfl rfl (by decide))) (fun r w1 h => ?_)
  obtain ⟨rfl, rfl⟩ := h
  exact ⟨_, ⟨rfl, td, th, rfl⟩, bw_r1 (bw_pick1 21 [19, 0, 1, 2, 3, 4, 5, 20, 6, 7, 8, 9, 10, 11, 12, 13, 14, 15, 16, 17, 18] rfl rfl (by decide))⟩
def x_fault (x : bwX)  : Option (Int32 × bwX) := (f_X4_fault x.2.1.1 x.2.1.2 ).bind fun q => some (q, x)
set_option maxHeartbeats 4000000 in
set_option maxRecDepth 100000 in
theorem t_X4_fault (l : Launch) (g : bwG) (a : Nat → Nat) (td th : bwHA) (x : bwX)  (res : Int32 × bwX) (hf : x_fault x  = some res) : bwS l g yX4_fault cX4_fault 1 (some .int) ({ frames := 2, cells := 0, slots := 0, locals := 44 } : Room) [.ref (a 0)] (bw_WX g a td th x) (fun r w => r = some (.int res.1) ∧ ∃ td1 th1 : bwHA, w = bw_WX g a td1 th1 res.2) := by
  unfold x_fault at hf
  obtain ⟨q, hq, hf⟩ := bw_bind hf
  cases Option.some.inj hf
  refine bwS_frame (s_X4_fault l g (a 0) (a 1) (a 7) (a 9) (a 11) (a 12) (a 15) (a 18) (a 8) x.2.1.1 x.2.1.2  q hq) (bw_q1 (bw_pick1 (X := bw_XW g a x) 21 [0, 7, 8, 1, 2, 3, 4, 5, 6, 9, 10, 11, 12, 13, 14, 15, 16, 17, 18, 19, 20] rfl rfl (by decide))) (fun r w1 h => ?_)
  obtain ⟨rfl, rfl⟩ := h
  exact ⟨_, ⟨rfl, td, th, rfl⟩, bw_r1 (bw_pick1 21 [18, 0, 1, 2, 3, 4, 5, 19, 20, 6, 7, 8, 9, 10, 11, 12, 13, 14, 15, 16, 17] rfl rfl (by decide))⟩
def x_undo (x : bwX)  : Option (Int32 × bwX) := (f_X4_undo x.1.1 x.1.2.1 x.1.2.2.1 x.1.2.2.2.1 x.1.2.2.2.2.1 x.1.2.2.2.2.2.1 x.1.2.2.2.2.2.2.1 x.1.2.2.2.2.2.2.2 x.2.2.2.2.2.2 ).bind fun q => some (q.1, ((q.2.1, q.2.2.1, q.2.2.2.1, q.2.2.2.2.1, q.2.2.2.2.2.1, q.2.2.2.2.2.2.1, q.2.2.2.2.2.2.2.1, q.2.2.2.2.2.2.2.2.1), x.2.1, x.2.2.1, x.2.2.2.1, x.2.2.2.2.1, x.2.2.2.2.2.1, q.2.2.2.2.2.2.2.2.2))
set_option maxHeartbeats 4000000 in
set_option maxRecDepth 100000 in
theorem t_X4_undo (l : Launch) (g : bwG) (a : Nat → Nat) (td th : bwHA) (x : bwX)  (res : Int32 × bwX) (hf : x_undo x  = some res) : bwS l g yX4_undo cX4_undo 1 (some .int) ({ frames := 3, cells := 6, slots := 101, locals := 66 } : Room) [.ref (a 0)] (bw_WX g a td th x) (fun r w => r = some (.int res.1) ∧ ∃ td1 th1 : bwHA, w = bw_WX g a td1 th1 res.2) := by
  unfold x_undo at hf
  obtain ⟨q, hq, hf⟩ := bw_bind hf
  cases Option.some.inj hf
  refine bwS_frame (s_X4_undo l g (a 0) (a 1) (a 7) (a 9) (a 11) (a 12) (a 15) (a 18) (a 2) (a 3) (a 4) (a 5) (a 6) (a 10) th x.1.1 x.1.2.1 x.1.2.2.1 x.1.2.2.2.1 x.1.2.2.2.2.1 x.1.2.2.2.2.2.1 x.1.2.2.2.2.2.2.1 x.1.2.2.2.2.2.2.2 x.2.2.2.2.2.2  q hq) (bw_q2 (A := [0, 1, 2, 3, 4, 5, 6].filterMap (fun i => (bw_XW g a x)[i]?)) (B := [7, 8, 9, 10, 11, 12, 13, 14, 15, 16, 17, 18, 19, 20].filterMap (fun i => (bw_XW g a x)[i]?)) (s := bw_sw g (a 11) td x.2.2.2.2.2.1) (bw_pick1 21 [0, 1, 2, 3, 4, 5, 6, 7, 8, 9, 10, 11, 12, 13, 14, 15, 16, 17, 18, 19, 20] rfl rfl (by decide))) (fun r w1 h => ?_)
  obtain ⟨rfl, th1, rfl⟩ := h
  exact ⟨_, ⟨rfl, td, th1, rfl⟩, bw_r2 (α := Nat × va_E) (X := bw_XW g a ((q.2.1, q.2.2.1, q.2.2.2.1, q.2.2.2.2.1, q.2.2.2.2.2.1, q.2.2.2.2.2.2.1, q.2.2.2.2.2.2.2.1, q.2.2.2.2.2.2.2.2.1), x.2.1, x.2.2.1, x.2.2.2.1, x.2.2.2.2.1, x.2.2.2.2.2.1, q.2.2.2.2.2.2.2.2.2)) (A := [(a 0, .inr (4, [.ref (a 1), .ref (a 7), .ref (a 9), .ref (a 11), .ref (a 12), .ref (a 15), .ref (a 18)])), (a 1, .inr (0, [.ref (a 2), .ref (a 3), .ref (a 4), .ref (a 5), .ref (a 6), .int q.2.1, .int q.2.2.1, .int q.2.2.2.1])), (a 2, .inl (g.2.1, 3, .inl q.2.2.2.2.1)), (a 3, .inl (g.2.1, 6, .inl q.2.2.2.2.2.1)), (a 4, .inl (g.2.1, 36, .inl q.2.2.2.2.2.2.1)), (a 5, .inl (g.2.1, 24, .inl q.2.2.2.2.2.2.2.1)), (a 6, .inl (g.2.1, 24, .inl q.2.2.2.2.2.2.2.2.1))]) (B := [7, 8, 9, 10, 11, 12, 13, 14, 15, 16, 17, 18, 19, 20].filterMap (fun i => (bw_XW g a x)[i]?)) (s := bw_sw g (a 11) td x.2.2.2.2.2.1) (h := bw_hw g (a 9) (a 10) th1 (((q.2.1, q.2.2.1, q.2.2.2.1, q.2.2.2.2.1, q.2.2.2.2.2.1, q.2.2.2.2.2.2.1, q.2.2.2.2.2.2.2.1, q.2.2.2.2.2.2.2.2.1), x.2.1, x.2.2.1, x.2.2.2.1, x.2.2.2.2.1, x.2.2.2.2.2.1, q.2.2.2.2.2.2.2.2.2) : bwX).2.2.2.2.2.2) (bw_pick1 21 [14, 15, 16, 17, 18, 19, 20, 0, 1, 2, 3, 4, 5, 6, 7, 8, 9, 10, 11, 12, 13] rfl rfl (by decide))⟩
def x_save (x : bwX) (p0 : Int32) : Option (Int32 × bwX) := (f_saveC x.1 x.2.2.2.2.2.1 p0).bind fun q => some (q.1, (x.1, x.2.1, x.2.2.1, x.2.2.2.1, x.2.2.2.2.1, q.2, x.2.2.2.2.2.2))
def x_restore (x : bwX) (p0 : Int32) : Option (Int32 × bwX) := (f_restoreC x.1 x.2.2.2.2.2.1 x.2.2.2.2.2.2 p0).bind fun q => some (q.1, (q.2.1, x.2.1, x.2.2.1, x.2.2.2.1, x.2.2.2.2.1, x.2.2.2.2.2.1, q.2.2))
set_option maxHeartbeats 4000000 in
set_option maxRecDepth 100000 in
theorem t_X4_save (l : Launch) (g : bwG) (a : Nat → Nat) (td th : bwHA) (x : bwX) (p0 : Int32) (res : Int32 × bwX) (hf : x_save x p0 = some res) : bwS l g yX4_save cX4_save 2 (some .int) ({ frames := 3, cells := 6, slots := 101, locals := 65 } : Room) [.ref (a 0), .int p0] (bw_WX g a td th x) (fun r w => r = some (.int res.1) ∧ ∃ td1 th1 : bwHA, w = bw_WX g a td1 th1 res.2) := by
  unfold x_save at hf
  obtain ⟨q, hq, hf⟩ := bw_bind hf
  cases Option.some.inj hf
  refine bwS_frame (s_saveC l g (a 0) (a 7) (a 9) (a 11) (a 12) (a 15) (a 18) (fun k => a (k + 1)) td x.1 x.2.2.2.2.2.1 p0 q hq) (bw_q3 (A := [0, 1, 2, 3, 4, 5, 6].filterMap (fun i => (bw_XW g a x)[i]?)) (B := [7, 8, 9, 10, 11, 12, 13, 14, 15, 16, 17, 18, 19, 20].filterMap (fun i => (bw_XW g a x)[i]?)) (h := bw_hw g (a 9) (a 10) th x.2.2.2.2.2.2) (bw_pick1 21 [0, 1, 2, 3, 4, 5, 6, 7, 8, 9, 10, 11, 12, 13, 14, 15, 16, 17, 18, 19, 20] rfl rfl (by decide))) (fun r w1 h => ?_)
  obtain ⟨rfl, td1, rfl⟩ := h
  exact ⟨_, ⟨rfl, td1, th, rfl⟩, bw_r3 (X := bw_XW g a x) (A := bw_tc (a 0) (a 1) (a 7) (a 9) (a 11) (a 12) (a 15) (a 18) :: bw_cw g (fun k => a (k + 1)) x.1) (B := [7, 8, 9, 10, 11, 12, 13, 14, 15, 16, 17, 18, 19, 20].filterMap (fun i => (bw_XW g a x)[i]?)) (s := bw_sw g (a 11) td1 q.2) (h := bw_hw g (a 9) (a 10) th x.2.2.2.2.2.2) (bw_pick1 21 [14, 15, 16, 17, 18, 19, 20, 0, 1, 2, 3, 4, 5, 6, 7, 8, 9, 10, 11, 12, 13] rfl rfl (by decide))⟩
set_option maxHeartbeats 4000000 in
set_option maxRecDepth 100000 in
theorem t_X4_restore (l : Launch) (g : bwG) (a : Nat → Nat) (td th : bwHA) (x : bwX) (p0 : Int32) (res : Int32 × bwX) (hf : x_restore x p0 = some res) : bwS l g yX4_restore cX4_restore 3 (some .int) ({ frames := 4, cells := 6, slots := 101, locals := 86 } : Room) [.ref (a 0), .int p0] (bw_WX g a td th x) (fun r w => r = some (.int res.1) ∧ ∃ td1 th1 : bwHA, w = bw_WX g a td1 th1 res.2) := by
  unfold x_restore at hf
  obtain ⟨q, hq, hf⟩ := bw_bind hf
  cases Option.some.inj hf
  refine bwS_frame (s_restoreC l g (a 0) (a 7) (a 9) (a 11) (a 12) (a 15) (a 18) (a 10) (fun k => a (k + 1)) td th x.1 x.2.2.2.2.2.1 x.2.2.2.2.2.2 p0 q hq) (bw_q4 (A := [0, 1, 2, 3, 4, 5, 6].filterMap (fun i => (bw_XW g a x)[i]?)) (B := [7, 8, 9, 10, 11, 12, 13, 14, 15, 16, 17, 18, 19, 20].filterMap (fun i => (bw_XW g a x)[i]?)) (bw_pick1 21 [0, 1, 2, 3, 4, 5, 6, 7, 8, 9, 10, 11, 12, 13, 14, 15, 16, 17, 18, 19, 20] rfl rfl (by decide))) (fun r w1 h => ?_)
  obtain ⟨rfl, th1, rfl⟩ := h
  exact ⟨_, ⟨rfl, td, th1, rfl⟩, bw_r4 (X := bw_XW g a (q.2.1, x.2.1, x.2.2.1, x.2.2.2.1, x.2.2.2.2.1, x.2.2.2.2.2.1, q.2.2)) (A := bw_tc (a 0) (a 1) (a 7) (a 9) (a 11) (a 12) (a 15) (a 18) :: bw_cw g (fun k => a (k + 1)) q.2.1) (B := [7, 8, 9, 10, 11, 12, 13, 14, 15, 16, 17, 18, 19, 20].filterMap (fun i => (bw_XW g a x)[i]?)) (s := bw_sw g (a 11) td x.2.2.2.2.2.1) (h := bw_hw g (a 9) (a 10) th1 q.2.2) (bw_pick1 21 [14, 15, 16, 17, 18, 19, 20, 0, 1, 2, 3, 4, 5, 6, 7, 8, 9, 10, 11, 12, 13] rfl rfl (by decide))⟩
abbrev bwMd : Type := Int32 × Int32 × Int32 × Int32 × Int32 × Int32 × (Nat → Int32) × (Nat → Int32) × (Nat → Int32) × (Nat → Int32) × (Nat → Int32) × (Nat → Int32) × (Nat → Int32) × (Nat → Int32) × (Nat → Int32) × (Nat → Int32) × (Nat → Int32)
def bw_WM (g : bwG) (b : Nat → Nat) (m : bwMd) : va_W := [(b 0, .inr (5, [.ref (b 1), .ref (b 2), .ref (b 3), .int m.1, .ref (b 4), .ref (b 5), .ref (b 6), .int m.2.1, .ref (b 7), .int m.2.2.1, .ref (b 8), .ref (b 9), .int m.2.2.2.1, .int m.2.2.2.2.1, .ref (b 10), .ref (b 11), .int m.2.2.2.2.2.1])), (b 1, .inl (g.2.1, 120, .inl m.2.2.2.2.2.2.1)), (b 2, .inl (g.2.1, 120, .inl m.2.2.2.2.2.2.2.1)), (b 3, .inl (g.2.1, 720, .inl m.2.2.2.2.2.2.2.2.1)), (b 4, .inl (g.2.1, 240, .inl m.2.2.2.2.2.2.2.2.2.1)), (b 5, .inl (g.2.1, 2, .inl m.2.2.2.2.2.2.2.2.2.2.1)), (b 6, .inl (g.2.1, 24, .inl m.2.2.2.2.2.2.2.2.2.2.2.1)), (b 7, .inl (g.2.1, 24, .inl m.2.2.2.2.2.2.2.2.2.2.2.2.1)), (b 8, .inl (g.2.1, 24, .inl m.2.2.2.2.2.2.2.2.2.2.2.2.2.1)), (b 9, .inl (g.2.1, 60, .inl m.2.2.2.2.2.2.2.2.2.2.2.2.2.2.1)), (b 10, .inl (g.2.1, 30, .inl m.2.2.2.2.2.2.2.2.2.2.2.2.2.2.2.1)), (b 11, .inl (g.2.1, 30, .inl m.2.2.2.2.2.2.2.2.2.2.2.2.2.2.2.2))]
def m_set (m : bwMd) (p0 : Int32) (p1 : Int32) : Option (Int32 × bwMd) := (f_X5_set m.1 m.2.2.2.2.2.2.1 m.2.2.2.2.2.2.2.2.1 p0 p1).bind fun q => some (q.1, (q.2.1, m.2.1, m.2.2.1, m.2.2.2.1, m.2.2.2.2.1, m.2.2.2.2.2.1, q.2.2.1, m.2.2.2.2.2.2.2.1, q.2.2.2, m.2.2.2.2.2.2.2.2.2.1, m.2.2.2.2.2.2.2.2.2.2.1, m.2.2.2.2.2.2.2.2.2.2.2.1, m.2.2.2.2.2.2.2.2.2.2.2.2.1, m.2.2.2.2.2.2.2.2.2.2.2.2.2.1, m.2.2.2.2.2.2.2.2.2.2.2.2.2.2.1, m.2.2.2.2.2.2.2.2.2.2.2.2.2.2.2.1, m.2.2.2.2.2.2.2.2.2.2.2.2.2.2.2.2))
set_option maxHeartbeats 4000000 in
set_option maxRecDepth 100000 in
theorem t_X5_set (l : Launch) (g : bwG) (b : Nat → Nat) (m : bwMd) (p0 : Int32) (p1 : Int32) (res : Int32 × bwMd) (hf : m_set m p0 p1 = some res) : bwS l g yX5_set cX5_set 4 (some .int) ({ frames := 2, cells := 0, slots := 0, locals := 46 } : Room) [.ref (b 0), .int p0, .int p1] (bw_WM g b m) (fun r w => r = some (.int res.1) ∧ w = bw_WM g b res.2) := by
  unfold m_set at hf
  obtain ⟨q, hq, hf⟩ := bw_bind hf
  cases Option.some.inj hf
  refine bwS_frame (s_X5_set l g (b 0) (b 1) (b 2) (b 3) (b 4) (b 5) (b 6) (b 7) (b 8) (b 9) (b 10) (b 11) m.1 m.2.1 m.2.2.1 m.2.2.2.1 m.2.2.2.2.1 m.2.2.2.2.2.1 m.2.2.2.2.2.2.1 m.2.2.2.2.2.2.2.2.1 p0 p1 q hq) (bw_pick1 (X := bw_WM g b m) 12 [0, 1, 3, 2, 4, 5, 6, 7, 8, 9, 10, 11] rfl rfl (by decide)) (fun r w1 h => ?_)
  obtain ⟨rfl, rfl⟩ := h
  exact ⟨_, ⟨rfl, rfl⟩, bw_pick1 12 [9, 10, 0, 11, 1, 2, 3, 4, 5, 6, 7, 8] rfl rfl (by decide)⟩
def m_eyes (m : bwMd) (p0 : Int32) (p1 : Int32) : Option (Int32 × bwMd) := (f_X5_eyes m.1 m.2.2.2.2.2.2.1 m.2.2.2.2.2.2.2.2.1 p0 p1).bind fun q => some (q.1, (q.2.1, m.2.1, m.2.2.1, m.2.2.2.1, m.2.2.2.2.1, m.2.2.2.2.2.1, q.2.2.1, m.2.2.2.2.2.2.2.1, q.2.2.2, m.2.2.2.2.2.2.2.2.2.1, m.2.2.2.2.2.2.2.2.2.2.1, m.2.2.2.2.2.2.2.2.2.2.2.1, m.2.2.2.2.2.2.2.2.2.2.2.2.1, m.2.2.2.2.2.2.2.2.2.2.2.2.2.1, m.2.2.2.2.2.2.2.2.2.2.2.2.2.2.1, m.2.2.2.2.2.2.2.2.2.2.2.2.2.2.2.1, m.2.2.2.2.2.2.2.2.2.2.2.2.2.2.2.2))
set_option maxHeartbeats 4000000 in
set_option maxRecDepth 100000 in
theorem t_X5_eyes (l : Launch) (g : bwG) (b : Nat → Nat) (m : bwMd) (p0 : Int32) (p1 : Int32) (res : Int32 × bwMd) (hf : m_eyes m p0 p1 = some res) : bwS l g yX5_eyes cX5_eyes 4 (some .int) ({ frames := 2, cells := 0, slots := 0, locals := 45 } : Room) [.ref (b 0), .int p0, .int p1] (bw_WM g b m) (fun r w => r = some (.int res.1) ∧ w = bw_WM g b res.2) := by
  unfold m_eyes at hf
  obtain ⟨q, hq, hf⟩ := bw_bind hf
  cases Option.some.inj hf
  refine bwS_frame (s_X5_eyes l g (b 0) (b 1) (b 2) (b 3) (b 4) (b 5) (b 6) (b 7) (b 8) (b 9) (b 10) (b 11) m.1 m.2.1 m.2.2.1 m.2.2.2.1 m.2.2.2.2.1 m.2.2.2.2.2.1 m.2.2.2.2.2.2.1 m.2.2.2.2.2.2.2.2.1 p0 p1 q hq) (bw_pick1 (X := bw_WM g b m) 12 [0, 1, 3, 2, 4, 5, 6, 7, 8, 9, 10, 11] rfl rfl (by decide)) (fun r w1 h => ?_)
  obtain ⟨rfl, rfl⟩ := h
  exact ⟨_, ⟨rfl, rfl⟩, bw_pick1 12 [9, 10, 0, 11, 1, 2, 3, 4, 5, 6, 7, 8] rfl rfl (by decide)⟩
def m_bow (m : bwMd) (p0 : Int32) (p1 : Int32) (p2 : Int32) : Option (Int32 × bwMd) := (f_X5_bow m.1 m.2.2.2.2.2.2.1 m.2.2.2.2.2.2.2.2.1 p0 p1 p2).bind fun q => some (q.1, (q.2.1, m.2.1, m.2.2.1, m.2.2.2.1, m.2.2.2.2.1, m.2.2.2.2.2.1, q.2.2.1, m.2.2.2.2.2.2.2.1, q.2.2.2, m.2.2.2.2.2.2.2.2.2.1, m.2.2.2.2.2.2.2.2.2.2.1, m.2.2.2.2.2.2.2.2.2.2.2.1, m.2.2.2.2.2.2.2.2.2.2.2.2.1, m.2.2.2.2.2.2.2.2.2.2.2.2.2.1, m.2.2.2.2.2.2.2.2.2.2.2.2.2.2.1, m.2.2.2.2.2.2.2.2.2.2.2.2.2.2.2.1, m.2.2.2.2.2.2.2.2.2.2.2.2.2.2.2.2))
set_option maxHeartbeats 4000000 in
set_option maxRecDepth 100000 in
theorem t_X5_bow (l : Launch) (g : bwG) (b : Nat → Nat) (m : bwMd) (p0 : Int32) (p1 : Int32) (p2 : Int32) (res : Int32 × bwMd) (hf : m_bow m p0 p1 p2 = some res) : bwS l g yX5_bow cX5_bow 4 (some .int) ({ frames := 1, cells := 0, slots := 0, locals := 25 } : Room) [.ref (b 0), .int p0, .int p1, .int p2] (bw_WM g b m) (fun r w => r = some (.int res.1) ∧ w = bw_WM g b res.2) := by
  unfold m_bow at hf
  obtain ⟨q, hq, hf⟩ := bw_bind hf
  cases Option.some.inj hf
  refine bwS_frame (s_X5_bow l g (b 0) (b 1) (b 2) (b 3) (b 4) (b 5) (b 6) (b 7) (b 8) (b 9) (b 10) (b 11) m.1 m.2.1 m.2.2.1 m.2.2.2.1 m.2.2.2.2.1 m.2.2.2.2.2.1 m.2.2.2.2.2.2.1 m.2.2.2.2.2.2.2.2.1 p0 p1 p2 q hq) (bw_pick1 (X := bw_WM g b m) 12 [0, 1, 3, 2, 4, 5, 6, 7, 8, 9, 10, 11] rfl rfl (by decide)) (fun r w1 h => ?_)
  obtain ⟨rfl, rfl⟩ := h
  exact ⟨_, ⟨rfl, rfl⟩, bw_pick1 12 [9, 10, 0, 11, 1, 2, 3, 4, 5, 6, 7, 8] rfl rfl (by decide)⟩
def m_takeBack (m : bwMd)  : Option (Int32 × bwMd) := (f_X5_takeBack m.1 m.2.2.2.2.2.2.1 m.2.2.2.2.2.2.2.2.1 ).bind fun q => some (q.1, (q.2.1, m.2.1, m.2.2.1, m.2.2.2.1, m.2.2.2.2.1, m.2.2.2.2.2.1, q.2.2.1, m.2.2.2.2.2.2.2.1, q.2.2.2, m.2.2.2.2.2.2.2.2.2.1, m.2.2.2.2.2.2.2.2.2.2.1, m.2.2.2.2.2.2.2.2.2.2.2.1, m.2.2.2.2.2.2.2.2.2.2.2.2.1, m.2.2.2.2.2.2.2.2.2.2.2.2.2.1, m.2.2.2.2.2.2.2.2.2.2.2.2.2.2.1, m.2.2.2.2.2.2.2.2.2.2.2.2.2.2.2.1, m.2.2.2.2.2.2.2.2.2.2.2.2.2.2.2.2))
set_option maxHeartbeats 4000000 in
set_option maxRecDepth 100000 in
theorem t_X5_takeBack (l : Launch) (g : bwG) (b : Nat → Nat) (m : bwMd)  (res : Int32 × bwMd) (hf : m_takeBack m  = some res) : bwS l g yX5_takeBack cX5_takeBack 2 (some .int) ({ frames := 1, cells := 0, slots := 0, locals := 21 } : Room) [.ref (b 0)] (bw_WM g b m) (fun r w => r = some (.int res.1) ∧ w = bw_WM g b res.2) := by
  unfold m_takeBack at hf
  obtain ⟨q, hq, hf⟩ := bw_bind hf
  cases Option.some.inj hf
  refine bwS_frame (s_X5_takeBack l g (b 0) (b 1) (b 2) (b 3) (b 4) (b 5) (b 6) (b 7) (b 8) (b 9) (b 10) (b 11) m.1 m.2.1 m.2.2.1 m.2.2.2.1 m.2.2.2.2.1 m.2.2.2.2.2.1 m.2.2.2.2.2.2.1 m.2.2.2.2.2.2.2.2.1  q hq) (bw_pick1 (X := bw_WM g b m) 12 [0, 1, 3, 2, 4, 5, 6, 7, 8, 9, 10, 11] rfl rfl (by decide)) (fun r w1 h => ?_)
  obtain ⟨rfl, rfl⟩ := h
  exact ⟨_, ⟨rfl, rfl⟩, bw_pick1 12 [9, 10, 0, 11, 1, 2, 3, 4, 5, 6, 7, 8] rfl rfl (by decide)⟩
def m_read (m : bwMd)  : Option (Int32 × bwMd) := (f_X5_read m.1 m.2.2.2.1 m.2.2.2.2.1 m.2.2.2.2.2.1 m.2.2.2.2.2.2.1 m.2.2.2.2.2.2.2.2.1 m.2.2.2.2.2.2.2.2.2.2.2.2.2.2.1 m.2.2.2.2.2.2.2.2.2.2.2.2.2.2.2.1 m.2.2.2.2.2.2.2.2.2.2.2.2.2.2.2.2 ).bind fun q => some (q.1, (q.2.1, m.2.1, m.2.2.1, q.2.2.1, q.2.2.2.1, q.2.2.2.2.1, q.2.2.2.2.2.1, m.2.2.2.2.2.2.2.1, q.2.2.2.2.2.2.1, m.2.2.2.2.2.2.2.2.2.1, m.2.2.2.2.2.2.2.2.2.2.1, m.2.2.2.2.2.2.2.2.2.2.2.1, m.2.2.2.2.2.2.2.2.2.2.2.2.1, m.2.2.2.2.2.2.2.2.2.2.2.2.2.1, m.2.2.2.2.2.2.2.2.2.2.2.2.2.2.1, q.2.2.2.2.2.2.2.1, q.2.2.2.2.2.2.2.2))
set_option maxHeartbeats 4000000 in
set_option maxRecDepth 100000 in
theorem t_X5_read (l : Launch) (g : bwG) (b : Nat → Nat) (m : bwMd)  (res : Int32 × bwMd) (hf : m_read m  = some res) : bwS l g yX5_read cX5_read 2 (some .int) ({ frames := 5, cells := 0, slots := 0, locals := 110 } : Room) [.ref (b 0)] (bw_WM g b m) (fun r w => r = some (.int res.1) ∧ w = bw_WM g b res.2) := by
  unfold m_read at hf
  obtain ⟨q, hq, hf⟩ := bw_bind hf
  cases Option.some.inj hf
  refine bwS_frame (s_X5_read l g (b 0) (b 1) (b 2) (b 3) (b 4) (b 5) (b 6) (b 7) (b 8) (b 9) (b 10) (b 11) m.1 m.2.1 m.2.2.1 m.2.2.2.1 m.2.2.2.2.1 m.2.2.2.2.2.1 m.2.2.2.2.2.2.1 m.2.2.2.2.2.2.2.2.1 m.2.2.2.2.2.2.2.2.2.2.2.2.2.2.1 m.2.2.2.2.2.2.2.2.2.2.2.2.2.2.2.1 m.2.2.2.2.2.2.2.2.2.2.2.2.2.2.2.2  q hq) (bw_pick1 (X := bw_WM g b m) 12 [0, 1, 3, 9, 10, 11, 2, 4, 5, 6, 7, 8] rfl rfl (by decide)) (fun r w1 h => ?_)
  obtain ⟨rfl, rfl⟩ := h
  exact ⟨_, ⟨rfl, rfl⟩, bw_pick1 12 [6, 7, 0, 8, 1, 2, 3, 4, 5, 9, 10, 11] rfl rfl (by decide)⟩
def m_hush (m : bwMd)  : Option (Int32 × bwMd) := (f_X5_hush m.1 m.2.2.2.2.2.2.1 m.2.2.2.2.2.2.2.2.1 ).bind fun q => some (q.1, (q.2.1, m.2.1, m.2.2.1, m.2.2.2.1, m.2.2.2.2.1, m.2.2.2.2.2.1, q.2.2.1, m.2.2.2.2.2.2.2.1, q.2.2.2, m.2.2.2.2.2.2.2.2.2.1, m.2.2.2.2.2.2.2.2.2.2.1, m.2.2.2.2.2.2.2.2.2.2.2.1, m.2.2.2.2.2.2.2.2.2.2.2.2.1, m.2.2.2.2.2.2.2.2.2.2.2.2.2.1, m.2.2.2.2.2.2.2.2.2.2.2.2.2.2.1, m.2.2.2.2.2.2.2.2.2.2.2.2.2.2.2.1, m.2.2.2.2.2.2.2.2.2.2.2.2.2.2.2.2))
set_option maxHeartbeats 4000000 in
set_option maxRecDepth 100000 in
theorem t_X5_hush (l : Launch) (g : bwG) (b : Nat → Nat) (m : bwMd)  (res : Int32 × bwMd) (hf : m_hush m  = some res) : bwS l g yX5_hush cX5_hush 2 (some .int) ({ frames := 1, cells := 0, slots := 0, locals := 21 } : Room) [.ref (b 0)] (bw_WM g b m) (fun r w => r = some (.int res.1) ∧ w = bw_WM g b res.2) := by
  unfold m_hush at hf
  obtain ⟨q, hq, hf⟩ := bw_bind hf
  cases Option.some.inj hf
  refine bwS_frame (s_X5_hush l g (b 0) (b 1) (b 2) (b 3) (b 4) (b 5) (b 6) (b 7) (b 8) (b 9) (b 10) (b 11) m.1 m.2.1 m.2.2.1 m.2.2.2.1 m.2.2.2.2.1 m.2.2.2.2.2.1 m.2.2.2.2.2.2.1 m.2.2.2.2.2.2.2.2.1  q hq) (bw_pick1 (X := bw_WM g b m) 12 [0, 1, 3, 2, 4, 5, 6, 7, 8, 9, 10, 11] rfl rfl (by decide)) (fun r w1 h => ?_)
  obtain ⟨rfl, rfl⟩ := h
  exact ⟨_, ⟨rfl, rfl⟩, bw_pick1 12 [9, 10, 0, 11, 1, 2, 3, 4, 5, 6, 7, 8] rfl rfl (by decide)⟩
def m_give (m : bwMd)  : Option (Int32 × bwMd) := (f_X5_give m.1 m.2.1 m.2.2.1 m.2.2.2.2.2.2.1 m.2.2.2.2.2.2.2.2.1 m.2.2.2.2.2.2.2.2.2.2.2.1 m.2.2.2.2.2.2.2.2.2.2.2.2.1 ).bind fun q => some (q.1, (q.2.1, q.2.2.1, q.2.2.2.1, m.2.2.2.1, m.2.2.2.2.1, m.2.2.2.2.2.1, q.2.2.2.2.1, m.2.2.2.2.2.2.2.1, q.2.2.2.2.2.1, m.2.2.2.2.2.2.2.2.2.1, m.2.2.2.2.2.2.2.2.2.2.1, q.2.2.2.2.2.2.1, q.2.2.2.2.2.2.2, m.2.2.2.2.2.2.2.2.2.2.2.2.2.1, m.2.2.2.2.2.2.2.2.2.2.2.2.2.2.1, m.2.2.2.2.2.2.2.2.2.2.2.2.2.2.2.1, m.2.2.2.2.2.2.2.2.2.2.2.2.2.2.2.2))
set_option maxHeartbeats 4000000 in
set_option maxRecDepth 100000 in
theorem t_X5_give (l : Launch) (g : bwG) (b : Nat → Nat) (m : bwMd)  (res : Int32 × bwMd) (hf : m_give m  = some res) : bwS l g yX5_give cX5_give 1 (some .int) ({ frames := 7, cells := 0, slots := 0, locals := 156 } : Room) [.ref (b 0)] (bw_WM g b m) (fun r w => r = some (.int res.1) ∧ w = bw_WM g b res.2) := by
  unfold m_give at hf
  obtain ⟨q, hq, hf⟩ := bw_bind hf
  cases Option.some.inj hf
  refine bwS_frame (s_X5_give l g (b 0) (b 1) (b 2) (b 3) (b 4) (b 5) (b 6) (b 7) (b 8) (b 9) (b 10) (b 11) m.1 m.2.1 m.2.2.1 m.2.2.2.1 m.2.2.2.2.1 m.2.2.2.2.2.1 m.2.2.2.2.2.2.1 m.2.2.2.2.2.2.2.2.1 m.2.2.2.2.2.2.2.2.2.2.2.1 m.2.2.2.2.2.2.2.2.2.2.2.2.1  q hq) (bw_pick1 (X := bw_WM g b m) 12 [0, 1, 3, 6, 7, 2, 4, 5, 8, 9, 10, 11] rfl rfl (by decide)) (fun r w1 h => ?_)
  obtain ⟨rfl, rfl⟩ := h
  exact ⟨_, ⟨rfl, rfl⟩, bw_pick1 12 [7, 8, 0, 9, 1, 2, 10, 11, 3, 4, 5, 6] rfl rfl (by decide)⟩
def m_speech (m : bwMd) (p0 : Int32) (p1 : Int32) : Option (Int32 × bwMd) := (f_X5_speech m.2.1 m.2.2.1 m.2.2.2.2.2.2.1 m.2.2.2.2.2.2.2.2.2.2.2.1 m.2.2.2.2.2.2.2.2.2.2.2.2.1 p0 p1).bind fun q => some (q.1, (m.1, q.2.1, q.2.2.1, m.2.2.2.1, m.2.2.2.2.1, m.2.2.2.2.2.1, m.2.2.2.2.2.2.1, m.2.2.2.2.2.2.2.1, m.2.2.2.2.2.2.2.2.1, m.2.2.2.2.2.2.2.2.2.1, m.2.2.2.2.2.2.2.2.2.2.1, q.2.2.2.1, q.2.2.2.2, m.2.2.2.2.2.2.2.2.2.2.2.2.2.1, m.2.2.2.2.2.2.2.2.2.2.2.2.2.2.1, m.2.2.2.2.2.2.2.2.2.2.2.2.2.2.2.1, m.2.2.2.2.2.2.2.2.2.2.2.2.2.2.2.2))
set_option maxHeartbeats 4000000 in
set_option maxRecDepth 100000 in
theorem t_X5_speech (l : Launch) (g : bwG) (b : Nat → Nat) (m : bwMd) (p0 : Int32) (p1 : Int32) (res : Int32 × bwMd) (hf : m_speech m p0 p1 = some res) : bwS l g yX5_speech cX5_speech 4 (some .int) ({ frames := 5, cells := 0, slots := 0, locals := 110 } : Room) [.ref (b 0), .int p0, .int p1] (bw_WM g b m) (fun r w => r = some (.int res.1) ∧ w = bw_WM g b res.2) := by
  unfold m_speech at hf
  obtain ⟨q, hq, hf⟩ := bw_bind hf
  cases Option.some.inj hf
  refine bwS_frame (s_X5_speech l g (b 0) (b 1) (b 2) (b 3) (b 4) (b 5) (b 6) (b 7) (b 8) (b 9) (b 10) (b 11) m.1 m.2.1 m.2.2.1 m.2.2.2.1 m.2.2.2.2.1 m.2.2.2.2.2.1 m.2.2.2.2.2.2.1 m.2.2.2.2.2.2.2.2.2.2.2.1 m.2.2.2.2.2.2.2.2.2.2.2.2.1 p0 p1 q hq) (bw_pick1 (X := bw_WM g b m) 12 [0, 1, 6, 7, 2, 3, 4, 5, 8, 9, 10, 11] rfl rfl (by decide)) (fun r w1 h => ?_)
  obtain ⟨rfl, rfl⟩ := h
  exact ⟨_, ⟨rfl, rfl⟩, bw_pick1 12 [8, 9, 0, 1, 2, 3, 10, 11, 4, 5, 6, 7] rfl rfl (by decide)⟩
def m_word (m : bwMd) (p0 : Int32) (p1 : Int32) : Option (Int32 × bwMd) := (f_X5_word m.2.1 m.2.2.1 m.2.2.2.2.2.2.1 m.2.2.2.2.2.2.2.2.2.2.2.1 m.2.2.2.2.2.2.2.2.2.2.2.2.1 p0 p1).bind fun q => some (q.1, (m.1, q.2.1, q.2.2.1, m.2.2.2.1, m.2.2.2.2.1, m.2.2.2.2.2.1, m.2.2.2.2.2.2.1, m.2.2.2.2.2.2.2.1, m.2.2.2.2.2.2.2.2.1, m.2.2.2.2.2.2.2.2.2.1, m.2.2.2.2.2.2.2.2.2.2.1, q.2.2.2.1, q.2.2.2.2, m.2.2.2.2.2.2.2.2.2.2.2.2.2.1, m.2.2.2.2.2.2.2.2.2.2.2.2.2.2.1, m.2.2.2.2.2.2.2.2.2.2.2.2.2.2.2.1, m.2.2.2.2.2.2.2.2.2.2.2.2.2.2.2.2))
set_option maxHeartbeats 4000000 in
set_option maxRecDepth 100000 in
theorem t_X5_word (l : Launch) (g : bwG) (b : Nat → Nat) (m : bwMd) (p0 : Int32) (p1 : Int32) (res : Int32 × bwMd) (hf : m_word m p0 p1 = some res) : bwS l g yX5_word cX5_word 3 (some .int) ({ frames := 2, cells := 0, slots := 0, locals := 47 } : Room) [.ref (b 0), .int p0, .int p1] (bw_WM g b m) (fun r w => r = some (.int res.1) ∧ w = bw_WM g b res.2) := by
  unfold m_word at hf
  obtain ⟨q, hq, hf⟩ := bw_bind hf
  cases Option.some.inj hf
  refine bwS_frame (s_X5_word l g (b 0) (b 1) (b 2) (b 3) (b 4) (b 5) (b 6) (b 7) (b 8) (b 9) (b 10) (b 11) m.1 m.2.1 m.2.2.1 m.2.2.2.1 m.2.2.2.2.1 m.2.2.2.2.2.1 m.2.2.2.2.2.2.1 m.2.2.2.2.2.2.2.2.2.2.2.1 m.2.2.2.2.2.2.2.2.2.2.2.2.1 p0 p1 q hq) (bw_pick1 (X := bw_WM g b m) 12 [0, 1, 6, 7, 2, 3, 4, 5, 8, 9, 10, 11] rfl rfl (by decide)) (fun r w1 h => ?_)
  obtain ⟨rfl, rfl⟩ := h
  exact ⟨_, ⟨rfl, rfl⟩, bw_pick1 12 [8, 9, 0, 1, 2, 3, 10, 11, 4, 5, 6, 7] rfl rfl (by decide)⟩
def m_sentence (m : bwMd) (p0 : Int32) (p1 : Int32) (p2 : Int32) : Option (Int32 × bwMd) := (f_X5_sentence m.2.1 m.2.2.1 m.2.2.2.2.2.2.1 m.2.2.2.2.2.2.2.2.2.2.2.1 m.2.2.2.2.2.2.2.2.2.2.2.2.1 p0 p1 p2).bind fun q => some (q.1, (m.1, q.2.1, q.2.2.1, m.2.2.2.1, m.2.2.2.2.1, m.2.2.2.2.2.1, m.2.2.2.2.2.2.1, m.2.2.2.2.2.2.2.1, m.2.2.2.2.2.2.2.2.1, m.2.2.2.2.2.2.2.2.2.1, m.2.2.2.2.2.2.2.2.2.2.1, q.2.2.2.1, q.2.2.2.2, m.2.2.2.2.2.2.2.2.2.2.2.2.2.1, m.2.2.2.2.2.2.2.2.2.2.2.2.2.2.1, m.2.2.2.2.2.2.2.2.2.2.2.2.2.2.2.1, m.2.2.2.2.2.2.2.2.2.2.2.2.2.2.2.2))
set_option maxHeartbeats 4000000 in
set_option maxRecDepth 100000 in
theorem t_X5_sentence (l : Launch) (g : bwG) (b : Nat → Nat) (m : bwMd) (p0 : Int32) (p1 : Int32) (p2 : Int32) (res : Int32 × bwMd) (hf : m_sentence m p0 p1 p2 = some res) : bwS l g yX5_sentence cX5_sentence 5 (some .int) ({ frames := 5, cells := 0, slots := 0, locals := 110 } : Room) [.ref (b 0), .int p0, .int p1, .int p2] (bw_WM g b m) (fun r w => r = some (.int res.1) ∧ w = bw_WM g b res.2) := by
  unfold m_sentence at hf
  obtain ⟨q, hq, hf⟩ := bw_bind hf
  cases Option.some.inj hf
  refine bwS_frame (s_X5_sentence l g (b 0) (b 1) (b 2) (b 3) (b 4) (b 5) (b 6) (b 7) (b 8) (b 9) (b 10) (b 11) m.1 m.2.1 m.2.2.1 m.2.2.2.1 m.2.2.2.2.1 m.2.2.2.2.2.1 m.2.2.2.2.2.2.1 m.2.2.2.2.2.2.2.2.2.2.2.1 m.2.2.2.2.2.2.2.2.2.2.2.2.1 p0 p1 p2 q hq) (bw_pick1 (X := bw_WM g b m) 12 [0, 1, 6, 7, 2, 3, 4, 5, 8, 9, 10, 11] rfl rfl (by decide)) (fun r w1 h => ?_)
  obtain ⟨rfl, rfl⟩ := h
  exact ⟨_, ⟨rfl, rfl⟩, bw_pick1 12 [8, 9, 0, 1, 2, 3, 10, 11, 4, 5, 6, 7] rfl rfl (by decide)⟩
def m_favour (m : bwMd) (p0 : Int32) (p1 : Int32) : Option (Int32 × bwMd) := (f_X5_favour m.2.2.2.2.2.2.1 p0 p1).bind fun q => some (q, m)
set_option maxHeartbeats 4000000 in
set_option maxRecDepth 100000 in
theorem t_X5_favour (l : Launch) (g : bwG) (b : Nat → Nat) (m : bwMd) (p0 : Int32) (p1 : Int32) (res : Int32 × bwMd) (hf : m_favour m p0 p1 = some res) : bwS l g yX5_favour cX5_favour 3 (some .int) ({ frames := 2, cells := 0, slots := 0, locals := 45 } : Room) [.ref (b 0), .int p0, .int p1] (bw_WM g b m) (fun r w => r = some (.int res.1) ∧ w = bw_WM g b res.2) := by
  unfold m_favour at hf
  obtain ⟨q, hq, hf⟩ := bw_bind hf
  cases Option.some.inj hf
  refine bwS_frame (s_X5_favour l g (b 0) (b 1) (b 2) (b 3) (b 4) (b 5) (b 6) (b 7) (b 8) (b 9) (b 10) (b 11) m.1 m.2.1 m.2.2.1 m.2.2.2.1 m.2.2.2.2.1 m.2.2.2.2.2.1 m.2.2.2.2.2.2.1 p0 p1 q hq) (bw_pick1 (X := bw_WM g b m) 12 [0, 1, 2, 3, 4, 5, 6, 7, 8, 9, 10, 11] rfl rfl (by decide)) (fun r w1 h => ?_)
  obtain ⟨rfl, rfl⟩ := h
  exact ⟨_, ⟨rfl, rfl⟩, bw_pick1 12 [10, 11, 0, 1, 2, 3, 4, 5, 6, 7, 8, 9] rfl rfl (by decide)⟩
def m_count (m : bwMd) (p0 : Int32) : Option (Int32 × bwMd) := (f_X5_count m.1 m.2.1 m.2.2.1 m.2.2.2.1 m.2.2.2.2.2.2.1 m.2.2.2.2.2.2.2.2.2.2.2.1 m.2.2.2.2.2.2.2.2.2.2.2.2.1 m.2.2.2.2.2.2.2.2.2.2.2.2.2.1 p0).bind fun q => some (q.1, (m.1, q.2.1, q.2.2.1, m.2.2.2.1, m.2.2.2.2.1, m.2.2.2.2.2.1, m.2.2.2.2.2.2.1, m.2.2.2.2.2.2.2.1, m.2.2.2.2.2.2.2.2.1, m.2.2.2.2.2.2.2.2.2.1, m.2.2.2.2.2.2.2.2.2.2.1, q.2.2.2.1, q.2.2.2.2.1, q.2.2.2.2.2, m.2.2.2.2.2.2.2.2.2.2.2.2.2.2.1, m.2.2.2.2.2.2.2.2.2.2.2.2.2.2.2.1, m.2.2.2.2.2.2.2.2.2.2.2.2.2.2.2.2))
set_option maxHeartbeats 4000000 in
set_option maxRecDepth 100000 in
theorem t_X5_count (l : Launch) (g : bwG) (b : Nat → Nat) (m : bwMd) (p0 : Int32) (res : Int32 × bwMd) (hf : m_count m p0 = some res) : bwS l g yX5_count cX5_count 2 (some .int) ({ frames := 7, cells := 0, slots := 0, locals := 156 } : Room) [.ref (b 0), .int p0] (bw_WM g b m) (fun r w => r = some (.int res.1) ∧ w = bw_WM g b res.2) := by
  unfold m_count at hf
  obtain ⟨q, hq, hf⟩ := bw_bind hf
  cases Option.some.inj hf
  refine bwS_frame (s_X5_count l g (b 0) (b 1) (b 2) (b 3) (b 4) (b 5) (b 6) (b 7) (b 8) (b 9) (b 10) (b 11) m.1 m.2.1 m.2.2.1 m.2.2.2.1 m.2.2.2.2.1 m.2.2.2.2.2.1 m.2.2.2.2.2.2.1 m.2.2.2.2.2.2.2.2.2.2.2.1 m.2.2.2.2.2.2.2.2.2.2.2.2.1 m.2.2.2.2.2.2.2.2.2.2.2.2.2.1 p0 q hq) (bw_pick1 (X := bw_WM g b m) 12 [0, 1, 6, 7, 8, 2, 3, 4, 5, 9, 10, 11] rfl rfl (by decide)) (fun r w1 h => ?_)
  obtain ⟨rfl, rfl⟩ := h
  exact ⟨_, ⟨rfl, rfl⟩, bw_pick1 12 [7, 8, 0, 1, 2, 3, 9, 10, 11, 4, 5, 6] rfl rfl (by decide)⟩
def m_courtier (m : bwMd) (p0 : Int32) (p1 : Int32) : Option (Int32 × bwMd) := (f_X5_courtier m.2.1 m.2.2.1 m.2.2.2.2.2.2.1 m.2.2.2.2.2.2.2.2.2.2.2.1 m.2.2.2.2.2.2.2.2.2.2.2.2.1 p0 p1).bind fun q => some (q.1, (m.1, q.2.1, q.2.2.1, m.2.2.2.1, m.2.2.2.2.1, m.2.2.2.2.2.1, m.2.2.2.2.2.2.1, m.2.2.2.2.2.2.2.1, m.2.2.2.2.2.2.2.2.1, m.2.2.2.2.2.2.2.2.2.1, m.2.2.2.2.2.2.2.2.2.2.1, q.2.2.2.1, q.2.2.2.2, m.2.2.2.2.2.2.2.2.2.2.2.2.2.1, m.2.2.2.2.2.2.2.2.2.2.2.2.2.2.1, m.2.2.2.2.2.2.2.2.2.2.2.2.2.2.2.1, m.2.2.2.2.2.2.2.2.2.2.2.2.2.2.2.2))
set_option maxHeartbeats 4000000 in
set_option maxRecDepth 100000 in
theorem t_X5_courtier (l : Launch) (g : bwG) (b : Nat → Nat) (m : bwMd) (p0 : Int32) (p1 : Int32) (res : Int32 × bwMd) (hf : m_courtier m p0 p1 = some res) : bwS l g yX5_courtier cX5_courtier 3 (some .int) ({ frames := 7, cells := 0, slots := 0, locals := 154 } : Room) [.ref (b 0), .int p0, .int p1] (bw_WM g b m) (fun r w => r = some (.int res.1) ∧ w = bw_WM g b res.2) := by
  unfold m_courtier at hf
  obtain ⟨q, hq, hf⟩ := bw_bind hf
  cases Option.some.inj hf
  refine bwS_frame (s_X5_courtier l g (b 0) (b 1) (b 2) (b 3) (b 4) (b 5) (b 6) (b 7) (b 8) (b 9) (b 10) (b 11) m.1 m.2.1 m.2.2.1 m.2.2.2.1 m.2.2.2.2.1 m.2.2.2.2.2.1 m.2.2.2.2.2.2.1 m.2.2.2.2.2.2.2.2.2.2.2.1 m.2.2.2.2.2.2.2.2.2.2.2.2.1 p0 p1 q hq) (bw_pick1 (X := bw_WM g b m) 12 [0, 1, 6, 7, 2, 3, 4, 5, 8, 9, 10, 11] rfl rfl (by decide)) (fun r w1 h => ?_)
  obtain ⟨rfl, rfl⟩ := h
  exact ⟨_, ⟨rfl, rfl⟩, bw_pick1 12 [8, 9, 0, 1, 2, 3, 10, 11, 4, 5, 6, 7] rfl rfl (by decide)⟩
def m_ifGiven (m : bwMd) (p0 : Int32) (p1 : Int32) : Option (Int32 × bwMd) := (f_X5_ifGiven m.2.1 m.2.2.1 m.2.2.2.2.2.2.1 m.2.2.2.2.2.2.2.1 m.2.2.2.2.2.2.2.2.2.2.2.1 m.2.2.2.2.2.2.2.2.2.2.2.2.1 p0 p1).bind fun q => some (q.1, (m.1, q.2.1, q.2.2.1, m.2.2.2.1, m.2.2.2.2.1, m.2.2.2.2.2.1, q.2.2.2.1, q.2.2.2.2.1, m.2.2.2.2.2.2.2.2.1, m.2.2.2.2.2.2.2.2.2.1, m.2.2.2.2.2.2.2.2.2.2.1, q.2.2.2.2.2.1, q.2.2.2.2.2.2, m.2.2.2.2.2.2.2.2.2.2.2.2.2.1, m.2.2.2.2.2.2.2.2.2.2.2.2.2.2.1, m.2.2.2.2.2.2.2.2.2.2.2.2.2.2.2.1, m.2.2.2.2.2.2.2.2.2.2.2.2.2.2.2.2))
set_option maxHeartbeats 4000000 in
set_option maxRecDepth 100000 in
theorem t_X5_ifGiven (l : Launch) (g : bwG) (b : Nat → Nat) (m : bwMd) (p0 : Int32) (p1 : Int32) (res : Int32 × bwMd) (hf : m_ifGiven m p0 p1 = some res) : bwS l g yX5_ifGiven cX5_ifGiven 5 (some .int) ({ frames := 7, cells := 0, slots := 0, locals := 156 } : Room) [.ref (b 0), .int p0, .int p1] (bw_WM g b m) (fun r w => r = some (.int res.1) ∧ w = bw_WM g b res.2) := by
  unfold m_ifGiven at hf
  obtain ⟨q, hq, hf⟩ := bw_bind hf
  cases Option.some.inj hf
  refine bwS_frame (s_X5_ifGiven l g (b 0) (b 1) (b 2) (b 3) (b 4) (b 5) (b 6) (b 7) (b 8) (b 9) (b 10) (b 11) m.1 m.2.1 m.2.2.1 m.2.2.2.1 m.2.2.2.2.1 m.2.2.2.2.2.1 m.2.2.2.2.2.2.1 m.2.2.2.2.2.2.2.1 m.2.2.2.2.2.2.2.2.2.2.2.1 m.2.2.2.2.2.2.2.2.2.2.2.2.1 p0 p1 q hq) (bw_pick1 (X := bw_WM g b m) 12 [0, 1, 2, 6, 7, 3, 4, 5, 8, 9, 10, 11] rfl rfl (by decide)) (fun r w1 h => ?_)
  obtain ⟨rfl, rfl⟩ := h
  exact ⟨_, ⟨rfl, rfl⟩, bw_pick1 12 [7, 8, 9, 0, 1, 2, 10, 11, 3, 4, 5, 6] rfl rfl (by decide)⟩
def m_bestBow (m : bwMd)  : Option (Int32 × bwMd) := (f_X5_bestBow m.2.1 m.2.2.1 m.2.2.2.2.2.2.1 m.2.2.2.2.2.2.2.2.2.2.2.1 m.2.2.2.2.2.2.2.2.2.2.2.2.1 ).bind fun q => some (q.1, (m.1, q.2.1, q.2.2.1, m.2.2.2.1, m.2.2.2.2.1, m.2.2.2.2.2.1, q.2.2.2.1, m.2.2.2.2.2.2.2.1, m.2.2.2.2.2.2.2.2.1, m.2.2.2.2.2.2.2.2.2.1, m.2.2.2.2.2.2.2.2.2.2.1, q.2.2.2.2.1, q.2.2.2.2.2, m.2.2.2.2.2.2.2.2.2.2.2.2.2.1, m.2.2.2.2.2.2.2.2.2.2.2.2.2.2.1, m.2.2.2.2.2.2.2.2.2.2.2.2.2.2.2.1, m.2.2.2.2.2.2.2.2.2.2.2.2.2.2.2.2))
set_option maxHeartbeats 4000000 in
set_option maxRecDepth 100000 in
theorem t_X5_bestBow (l : Launch) (g : bwG) (b : Nat → Nat) (m : bwMd)  (res : Int32 × bwMd) (hf : m_bestBow m  = some res) : bwS l g yX5_bestBow cX5_bestBow 5 (some .int) ({ frames := 5, cells := 0, slots := 0, locals := 110 } : Room) [.ref (b 0)] (bw_WM g b m) (fun r w => r = some (.int res.1) ∧ w = bw_WM g b res.2) := by
  unfold m_bestBow at hf
  obtain ⟨q, hq, hf⟩ := bw_bind hf
  cases Option.some.inj hf
  refine bwS_frame (s_X5_bestBow l g (b 0) (b 1) (b 2) (b 3) (b 4) (b 5) (b 6) (b 7) (b 8) (b 9) (b 10) (b 11) m.1 m.2.1 m.2.2.1 m.2.2.2.1 m.2.2.2.2.1 m.2.2.2.2.2.1 m.2.2.2.2.2.2.1 m.2.2.2.2.2.2.2.2.2.2.2.1 m.2.2.2.2.2.2.2.2.2.2.2.2.1  q hq) (bw_pick1 (X := bw_WM g b m) 12 [0, 1, 6, 7, 2, 3, 4, 5, 8, 9, 10, 11] rfl rfl (by decide)) (fun r w1 h => ?_)
  obtain ⟨rfl, rfl⟩ := h
  exact ⟨_, ⟨rfl, rfl⟩, bw_pick1 12 [8, 9, 0, 1, 2, 3, 10, 11, 4, 5, 6, 7] rfl rfl (by decide)⟩
def m_darling (m : bwMd)  : Option (Int32 × bwMd) := (f_X5_darling m.2.2.2.2.2.2.1 ).bind fun q => some (q, m)
set_option maxHeartbeats 4000000 in
set_option maxRecDepth 100000 in
theorem t_X5_darling (l : Launch) (g : bwG) (b : Nat → Nat) (m : bwMd)  (res : Int32 × bwMd) (hf : m_darling m  = some res) : bwS l g yX5_darling cX5_darling 3 (some .int) ({ frames := 1, cells := 0, slots := 0, locals := 24 } : Room) [.ref (b 0)] (bw_WM g b m) (fun r w => r = some (.int res.1) ∧ w = bw_WM g b res.2) := by
  unfold m_darling at hf
  obtain ⟨q, hq, hf⟩ := bw_bind hf
  cases Option.some.inj hf
  refine bwS_frame (s_X5_darling l g (b 0) (b 1) (b 2) (b 3) (b 4) (b 5) (b 6) (b 7) (b 8) (b 9) (b 10) (b 11) m.1 m.2.1 m.2.2.1 m.2.2.2.1 m.2.2.2.2.1 m.2.2.2.2.2.1 m.2.2.2.2.2.2.1  q hq) (bw_pick1 (X := bw_WM g b m) 12 [0, 1, 2, 3, 4, 5, 6, 7, 8, 9, 10, 11] rfl rfl (by decide)) (fun r w1 h => ?_)
  obtain ⟨rfl, rfl⟩ := h
  exact ⟨_, ⟨rfl, rfl⟩, bw_pick1 12 [10, 11, 0, 1, 2, 3, 4, 5, 6, 7, 8, 9] rfl rfl (by decide)⟩
def m_put (m : bwMd) (p0 : Int64) : Option (Int32 × bwMd) := (f_X5_put m.2.2.2.1 m.2.2.2.2.2.2.2.2.2.2.2.2.2.2.1 p0).bind fun q => some (q.1, (m.1, m.2.1, m.2.2.1, q.2.1, m.2.2.2.2.1, m.2.2.2.2.2.1, m.2.2.2.2.2.2.1, m.2.2.2.2.2.2.2.1, m.2.2.2.2.2.2.2.2.1, m.2.2.2.2.2.2.2.2.2.1, m.2.2.2.2.2.2.2.2.2.2.1, m.2.2.2.2.2.2.2.2.2.2.2.1, m.2.2.2.2.2.2.2.2.2.2.2.2.1, m.2.2.2.2.2.2.2.2.2.2.2.2.2.1, q.2.2, m.2.2.2.2.2.2.2.2.2.2.2.2.2.2.2.1, m.2.2.2.2.2.2.2.2.2.2.2.2.2.2.2.2))
set_option maxHeartbeats 4000000 in
set_option maxRecDepth 100000 in
theorem t_X5_put (l : Launch) (g : bwG) (b : Nat → Nat) (m : bwMd) (p0 : Int64) (res : Int32 × bwMd) (hf : m_put m p0 = some res) : bwS l g yX5_put cX5_put 5 (some .int) ({ frames := 2, cells := 0, slots := 0, locals := 49 } : Room) [.ref (b 0), .long p0] (bw_WM g b m) (fun r w => r = some (.int res.1) ∧ w = bw_WM g b res.2) := by
  unfold m_put at hf
  obtain ⟨q, hq, hf⟩ := bw_bind hf
  cases Option.some.inj hf
  refine bwS_frame (s_X5_put l g (b 0) (b 1) (b 2) (b 3) (b 4) (b 5) (b 6) (b 7) (b 8) (b 9) (b 10) (b 11) m.1 m.2.1 m.2.2.1 m.2.2.2.1 m.2.2.2.2.1 m.2.2.2.2.2.1 m.2.2.2.2.2.2.2.2.2.2.2.2.2.2.1 p0 q hq) (bw_pick1 (X := bw_WM g b m) 12 [0, 9, 1, 2, 3, 4, 5, 6, 7, 8, 10, 11] rfl rfl (by decide)) (fun r w1 h => ?_)
  obtain ⟨rfl, rfl⟩ := h
  exact ⟨_, ⟨rfl, rfl⟩, bw_pick1 12 [10, 0, 1, 2, 3, 4, 5, 6, 7, 11, 8, 9] rfl rfl (by decide)⟩
def m_wipe (m : bwMd)  : Option (Int32 × bwMd) := (f_X5_wipe m.2.2.2.1 ).bind fun q => some (q.1, (m.1, m.2.1, m.2.2.1, q.2, m.2.2.2.2.1, m.2.2.2.2.2.1, m.2.2.2.2.2.2.1, m.2.2.2.2.2.2.2.1, m.2.2.2.2.2.2.2.2.1, m.2.2.2.2.2.2.2.2.2.1, m.2.2.2.2.2.2.2.2.2.2.1, m.2.2.2.2.2.2.2.2.2.2.2.1, m.2.2.2.2.2.2.2.2.2.2.2.2.1, m.2.2.2.2.2.2.2.2.2.2.2.2.2.1, m.2.2.2.2.2.2.2.2.2.2.2.2.2.2.1, m.2.2.2.2.2.2.2.2.2.2.2.2.2.2.2.1, m.2.2.2.2.2.2.2.2.2.2.2.2.2.2.2.2))
set_option maxHeartbeats 4000000 in
set_option maxRecDepth 100000 in
theorem t_X5_wipe (l : Launch) (g : bwG) (b : Nat → Nat) (m : bwMd)  (res : Int32 × bwMd) (hf : m_wipe m  = some res) : bwS l g yX5_wipe cX5_wipe 2 (some .int) ({ frames := 0, cells := 0, slots := 0, locals := 0 } : Room) [.ref (b 0)] (bw_WM g b m) (fun r w => r = some (.int res.1) ∧ w = bw_WM g b res.2) := by
  unfold m_wipe at hf
  obtain ⟨q, hq, hf⟩ := bw_bind hf
  cases Option.some.inj hf
  refine bwS_frame (s_X5_wipe l g (b 0) (b 1) (b 2) (b 3) (b 4) (b 5) (b 6) (b 7) (b 8) (b 9) (b 10) (b 11) m.1 m.2.1 m.2.2.1 m.2.2.2.1 m.2.2.2.2.1 m.2.2.2.2.2.1  q hq) (bw_pick1 (X := bw_WM g b m) 12 [0, 1, 2, 3, 4, 5, 6, 7, 8, 9, 10, 11] rfl rfl (by decide)) (fun r w1 h => ?_)
  obtain ⟨rfl, rfl⟩ := h
  exact ⟨_, ⟨rfl, rfl⟩, bw_pick1 12 [11, 0, 1, 2, 3, 4, 5, 6, 7, 8, 9, 10] rfl rfl (by decide)⟩
def m_fault (m : bwMd)  : Option (Int32 × bwMd) := (f_X5_fault m.2.2.2.1 m.2.2.2.2.1 m.2.2.2.2.2.1 m.2.2.2.2.2.2.2.2.2.2.2.2.2.2.1 m.2.2.2.2.2.2.2.2.2.2.2.2.2.2.2.1 m.2.2.2.2.2.2.2.2.2.2.2.2.2.2.2.2 ).bind fun q => some (q.1, (m.1, m.2.1, m.2.2.1, m.2.2.2.1, q.2.1, q.2.2.1, m.2.2.2.2.2.2.1, m.2.2.2.2.2.2.2.1, m.2.2.2.2.2.2.2.2.1, m.2.2.2.2.2.2.2.2.2.1, m.2.2.2.2.2.2.2.2.2.2.1, m.2.2.2.2.2.2.2.2.2.2.2.1, m.2.2.2.2.2.2.2.2.2.2.2.2.1, m.2.2.2.2.2.2.2.2.2.2.2.2.2.1, m.2.2.2.2.2.2.2.2.2.2.2.2.2.2.1, q.2.2.2.1, q.2.2.2.2))
set_option maxHeartbeats 4000000 in
set_option maxRecDepth 100000 in
theorem t_X5_fault (l : Launch) (g : bwG) (b : Nat → Nat) (m : bwMd)  (res : Int32 × bwMd) (hf : m_fault m  = some res) : bwS l g yX5_fault cX5_fault 2 (some .int) ({ frames := 4, cells := 0, slots := 0, locals := 89 } : Room) [.ref (b 0)] (bw_WM g b m) (fun r w => r = some (.int res.1) ∧ w = bw_WM g b res.2) := by
  unfold m_fault at hf
  obtain ⟨q, hq, hf⟩ := bw_bind hf
  cases Option.some.inj hf
  refine bwS_frame (s_X5_fault l g (b 0) (b 1) (b 2) (b 3) (b 4) (b 5) (b 6) (b 7) (b 8) (b 9) (b 10) (b 11) m.1 m.2.1 m.2.2.1 m.2.2.2.1 m.2.2.2.2.1 m.2.2.2.2.2.1 m.2.2.2.2.2.2.2.2.2.2.2.2.2.2.1 m.2.2.2.2.2.2.2.2.2.2.2.2.2.2.2.1 m.2.2.2.2.2.2.2.2.2.2.2.2.2.2.2.2  q hq) (bw_pick1 (X := bw_WM g b m) 12 [0, 9, 10, 11, 1, 2, 3, 4, 5, 6, 7, 8] rfl rfl (by decide)) (fun r w1 h => ?_)
  obtain ⟨rfl, rfl⟩ := h
  exact ⟨_, ⟨rfl, rfl⟩, bw_pick1 12 [8, 0, 1, 2, 3, 4, 5, 6, 7, 9, 10, 11] rfl rfl (by decide)⟩
def m_undo (m : bwMd)  : Option (Int32 × bwMd) := (f_X5_undo m.1 m.2.2.2.2.2.2.1 m.2.2.2.2.2.2.2.2.1 ).bind fun q => some (q.1, (q.2.1, m.2.1, m.2.2.1, m.2.2.2.1, m.2.2.2.2.1, m.2.2.2.2.2.1, q.2.2, m.2.2.2.2.2.2.2.1, m.2.2.2.2.2.2.2.2.1, m.2.2.2.2.2.2.2.2.2.1, m.2.2.2.2.2.2.2.2.2.2.1, m.2.2.2.2.2.2.2.2.2.2.2.1, m.2.2.2.2.2.2.2.2.2.2.2.2.1, m.2.2.2.2.2.2.2.2.2.2.2.2.2.1, m.2.2.2.2.2.2.2.2.2.2.2.2.2.2.1, m.2.2.2.2.2.2.2.2.2.2.2.2.2.2.2.1, m.2.2.2.2.2.2.2.2.2.2.2.2.2.2.2.2))
set_option maxHeartbeats 4000000 in
set_option maxRecDepth 100000 in
theorem t_X5_undo (l : Launch) (g : bwG) (b : Nat → Nat) (m : bwMd)  (res : Int32 × bwMd) (hf : m_undo m  = some res) : bwS l g yX5_undo cX5_undo 2 (some .int) ({ frames := 0, cells := 0, slots := 0, locals := 0 } : Room) [.ref (b 0)] (bw_WM g b m) (fun r w => r = some (.int res.1) ∧ w = bw_WM g b res.2) := by
  unfold m_undo at hf
  obtain ⟨q, hq, hf⟩ := bw_bind hf
  cases Option.some.inj hf
  refine bwS_frame (s_X5_undo l g (b 0) (b 1) (b 2) (b 3) (b 4) (b 5) (b 6) (b 7) (b 8) (b 9) (b 10) (b 11) m.1 m.2.1 m.2.2.1 m.2.2.2.1 m.2.2.2.2.1 m.2.2.2.2.2.1 m.2.2.2.2.2.2.1 m.2.2.2.2.2.2.2.2.1  q hq) (bw_pick1 (X := bw_WM g b m) 12 [0, 1, 3, 2, 4, 5, 6, 7, 8, 9, 10, 11] rfl rfl (by decide)) (fun r w1 h => ?_)
  obtain ⟨rfl, rfl⟩ := h
  exact ⟨_, ⟨rfl, rfl⟩, bw_pick1 12 [9, 10, 0, 11, 1, 2, 3, 4, 5, 6, 7, 8] rfl rfl (by decide)⟩
def m_save (m : bwMd) (p0 : Int32) : Option (Int32 × bwMd) := (f_X5_save m.2.2.2.2.2.2.1 m.2.2.2.2.2.2.2.2.2.1 m.2.2.2.2.2.2.2.2.2.2.1 p0).bind fun q => some (q.1, (m.1, m.2.1, m.2.2.1, m.2.2.2.1, m.2.2.2.2.1, m.2.2.2.2.2.1, m.2.2.2.2.2.2.1, m.2.2.2.2.2.2.2.1, m.2.2.2.2.2.2.2.2.1, q.2.1, q.2.2, m.2.2.2.2.2.2.2.2.2.2.2.1, m.2.2.2.2.2.2.2.2.2.2.2.2.1, m.2.2.2.2.2.2.2.2.2.2.2.2.2.1, m.2.2.2.2.2.2.2.2.2.2.2.2.2.2.1, m.2.2.2.2.2.2.2.2.2.2.2.2.2.2.2.1, m.2.2.2.2.2.2.2.2.2.2.2.2.2.2.2.2))
set_option maxHeartbeats 4000000 in
set_option maxRecDepth 100000 in
theorem t_X5_save (l : Launch) (g : bwG) (b : Nat → Nat) (m : bwMd) (p0 : Int32) (res : Int32 × bwMd) (hf : m_save m p0 = some res) : bwS l g yX5_save cX5_save 3 (some .int) ({ frames := 1, cells := 0, slots := 0, locals := 20 } : Room) [.ref (b 0), .int p0] (bw_WM g b m) (fun r w => r = some (.int res.1) ∧ w = bw_WM g b res.2) := by
  unfold m_save at hf
  obtain ⟨q, hq, hf⟩ := bw_bind hf
  cases Option.some.inj hf
  refine bwS_frame (s_X5_save l g (b 0) (b 1) (b 2) (b 3) (b 4) (b 5) (b 6) (b 7) (b 8) (b 9) (b 10) (b 11) m.1 m.2.1 m.2.2.1 m.2.2.2.1 m.2.2.2.2.1 m.2.2.2.2.2.1 m.2.2.2.2.2.2.1 m.2.2.2.2.2.2.2.2.2.1 m.2.2.2.2.2.2.2.2.2.2.1 p0 q hq) (bw_pick1 (X := bw_WM g b m) 12 [0, 1, 4, 5, 2, 3, 6, 7, 8, 9, 10, 11] rfl rfl (by decide)) (fun r w1 h => ?_)
  obtain ⟨rfl, rfl⟩ := h
  exact ⟨_, ⟨rfl, rfl⟩, bw_pick1 12 [8, 9, 0, 1, 10, 11, 2, 3, 4, 5, 6, 7] rfl rfl (by decide)⟩
def m_restore (m : bwMd) (p0 : Int32) : Option (Int32 × bwMd) := (f_X5_restore m.1 m.2.2.2.2.2.2.1 m.2.2.2.2.2.2.2.2.1 m.2.2.2.2.2.2.2.2.2.1 m.2.2.2.2.2.2.2.2.2.2.1 p0).bind fun q => some (q.1, (q.2.1, m.2.1, m.2.2.1, m.2.2.2.1, m.2.2.2.2.1, m.2.2.2.2.2.1, q.2.2.1, m.2.2.2.2.2.2.2.1, q.2.2.2, m.2.2.2.2.2.2.2.2.2.1, m.2.2.2.2.2.2.2.2.2.2.1, m.2.2.2.2.2.2.2.2.2.2.2.1, m.2.2.2.2.2.2.2.2.2.2.2.2.1, m.2.2.2.2.2.2.2.2.2.2.2.2.2.1, m.2.2.2.2.2.2.2.2.2.2.2.2.2.2.1, m.2.2.2.2.2.2.2.2.2.2.2.2.2.2.2.1, m.2.2.2.2.2.2.2.2.2.2.2.2.2.2.2.2))
set_option maxHeartbeats 4000000 in
set_option maxRecDepth 100000 in
theorem t_X5_restore (l : Launch) (g : bwG) (b : Nat → Nat) (m : bwMd) (p0 : Int32) (res : Int32 × bwMd) (hf : m_restore m p0 = some res) : bwS l g yX5_restore cX5_restore 3 (some .int) ({ frames := 1, cells := 0, slots := 0, locals := 21 } : Room) [.ref (b 0), .int p0] (bw_WM g b m) (fun r w => r = some (.int res.1) ∧ w = bw_WM g b res.2) := by
  unfold m_restore at hf
  obtain ⟨q, hq, hf⟩ := bw_bind hf
  cases Option.some.inj hf
  refine bwS_frame (s_X5_restore l g (b 0) (b 1) (b 2) (b 3) (b 4) (b 5) (b 6) (b 7) (b 8) (b 9) (b 10) (b 11) m.1 m.2.1 m.2.2.1 m.2.2.2.1 m.2.2.2.2.1 m.2.2.2.2.2.1 m.2.2.2.2.2.2.1 m.2.2.2.2.2.2.2.2.1 m.2.2.2.2.2.2.2.2.2.1 m.2.2.2.2.2.2.2.2.2.2.1 p0 q hq) (bw_pick1 (X := bw_WM g b m) 12 [0, 1, 3, 4, 5, 2, 6, 7, 8, 9, 10, 11] rfl rfl (by decide)) (fun r w1 h => ?_)
  obtain ⟨rfl, rfl⟩ := h
  exact ⟨_, ⟨rfl, rfl⟩, bw_pick1 12 [7, 8, 0, 9, 10, 11, 1, 2, 3, 4, 5, 6] rfl rfl (by decide)⟩
