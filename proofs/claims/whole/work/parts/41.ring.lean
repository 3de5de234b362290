theorem ar_X4_copyOf : yX4_copyOf.cls ≠ "java/lang/invoke/MethodHandle" ∧ yX4_copyOf.cls ≠ "java/lang/invoke/VarHandle" ∧ (parseMethodDescriptor yX4_copyOf.desc).map (fun d => d.parameters.length) = some 2 := ⟨by decide, by decide, by decide +kernel⟩
theorem bw_pc {α : Type} (A B : List α) : (B ++ A).Perm (A ++ B) := List.perm_append_comm
set_option maxHeartbeats 4000000 in
set_option maxRecDepth 100000 in
theorem s_X4_copyOf0 (l : Launch) (g : bwG) (a : Nat → Nat) (c res : bwCt) (hf : bw_bec bw_c0 c = some res) : bwS l g yX4_copyOf cX4_copyOf 3 (some (.object "BowSpeeches$Court")) ({ frames := 2, cells := 6, slots := 101, locals := 43 } : Room) [.ref (a 0), .null] (bw_cw g a c) (fun r w => ∃ b : Nat → Nat, r = some (.ref (b 0)) ∧ w = bw_cw g a c ++ bw_cw g b res) := by
  refine bwS_of (by decide) (Nat.le_of_ble_eq_true rfl) ?_
  show bwR l g cX4_copyOf 3 RX4 "copyOf" (some (.object "BowSpeeches$Court")) ({ frames := 2, cells := 6, slots := 101, locals := 43 } : Room) bwT (bwZ g (fun r w => ∃ b : Nat → Nat, r = some (.ref (b 0)) ∧ w = bw_cw g a c ++ bw_cw g b res) 6 101) 0 [(0, .ref (a 0)), (1, .null)] [] (bw_cw g a c) 0 0
  refine bw_aload_nN 1 dX4_copyOf_0 rfl rfl ?_
  refine bw_ifnonnullN dX4_copyOf_1 ?_
  refine bw_new RX0 TX0 8 0 [.null, .null, .null, .null, .null, .int 0, .int 0, .int 0] tyX0 tyX0_ok bkX0.1 rfl cl_X4_7 is_X0 ini_X0 df_X0 ⟨Nat.le_of_ble_eq_true rfl, Nat.le_of_ble_eq_true rfl⟩ dX4_copyOf_4 (fun q => ?_)
  refine bw_dup dX4_copyOf_7 rfl ?_
  refine bw_callIN "BowSpeeches" [] [.ref q] (bw_cw g a c) (s_X0_init l g q) rfl co_X0_init ini_X0 mn_X4_9 im_X0_init rfl ar_X0_init ⟨Nat.le_of_ble_eq_true rfl, Nat.le_of_ble_eq_true rfl⟩ ⟨Nat.le_of_ble_eq_true rfl, Nat.le_of_ble_eq_true rfl⟩ (bw_pc _ _) (Nat.le_of_ble_eq_true rfl) dX4_copyOf_8 (fun r w1 hq => ?_)
  obtain ⟨rfl, q1, q2, q3, q4, q5, rfl⟩ := hq
  obtain ⟨b, rfl, rfl, rfl, rfl, rfl, rfl⟩ : ∃ b : Nat → Nat, b 0 = q ∧ b 1 = q1 ∧ b 2 = q2 ∧ b 3 = q3 ∧ b 4 = q4 ∧ b 5 = q5 := ⟨bw_ad6 q q1 q2 q3 q4 q5, rfl, rfl, rfl, rfl, rfl, rfl⟩
  refine bw_ws (ws1 := bw_cw g a c ++ bw_cw g b bw_c0) rfl ?_
  refine bw_st (st1 := [.ref (b 0)]) rfl ?_
  refine bw_goto 15 dX4_copyOf_11 (by decide) ?_
  refine bw_astore_n [(2, .ref (b 0)), (0, .ref (a 0)), (1, .null)] dX4_copyOf_15 rfl (by decide) rfl ?_
  refine bw_aload_n 0 dX4_copyOf_16 rfl rfl ?_
  refine bw_aload_n 1 dX4_copyOf_17 rfl rfl ?_
  refine bw_callV [.ref (a 0)] [] [] 0 0 (wc := bw_cw g b bw_c0 ++ bw_cw g a c) (s_X0_become l g (b 0) (b 1) (b 2) (b 3) (b 4) (b 5) (a 0) (a 1) (a 2) (a 3) (a 4) (a 5) bw_c0.1 bw_c0.2.1 bw_c0.2.2.1 bw_c0.2.2.2.1 bw_c0.2.2.2.2.1 bw_c0.2.2.2.2.2.1 bw_c0.2.2.2.2.2.2.1 bw_c0.2.2.2.2.2.2.2 c.1 c.2.1 c.2.2.1 c.2.2.2.1 c.2.2.2.2.1 c.2.2.2.2.2.1 c.2.2.2.2.2.2.1 c.2.2.2.2.2.2.2 res hf) rfl co_X0_become ini_X0 ml_X4_173 im_X0_become se_X0_become ar_X0_become ⟨Nat.le_of_ble_eq_true rfl, Nat.le_of_ble_eq_true rfl⟩ ⟨Nat.le_of_ble_eq_true rfl, Nat.le_of_ble_eq_true rfl⟩ rfl rfl (by rw [List.append_nil]; exact bw_pc _ _) (Nat.le_of_ble_eq_true rfl) dX4_copyOf_18 (fun r w1 hq => ?_)
  obtain ⟨rfl, rfl⟩ := hq
  refine bw_perm (ws1 := bw_cw g a c ++ bw_cw g b res) (show (bw_cw g a c ++ bw_cw g b res).Perm (bw_cw g b res ++ bw_cw g a c) from bw_pc _ _) ?_
  refine bw_st (st1 := []) rfl ?_
  refine bw_aload_n 0 dX4_copyOf_21 rfl rfl ?_
  exact bw_aret rfl (Nat.le_of_ble_eq_true rfl) (Nat.le_of_ble_eq_true rfl) dX4_copyOf_22 ⟨b, rfl, rfl⟩
set_option maxHeartbeats 4000000 in
set_option maxRecDepth 100000 in
theorem s_X4_copyOf1 (l : Launch) (g : bwG) (a b : Nat → Nat) (c d res : bwCt) (hf : bw_bec d c = some res) : bwS l g yX4_copyOf cX4_copyOf 3 (some (.object "BowSpeeches$Court")) ({ frames := 2, cells := 6, slots := 101, locals := 43 } : Room) [.ref (a 0), .ref (b 0)] (bw_cw g a c ++ bw_cw g b d) (fun r w => r = some (.ref (b 0)) ∧ w = bw_cw g a c ++ bw_cw g b res) := by
  refine bwS_of (by decide) (Nat.le_of_ble_eq_true rfl) ?_
  show bwR l g cX4_copyOf 3 RX4 "copyOf" (some (.object "BowSpeeches$Court")) ({ frames := 2, cells := 6, slots := 101, locals := 43 } : Room) bwT (bwZ g (fun r w => r = some (.ref (b 0)) ∧ w = bw_cw g a c ++ bw_cw g b res) 6 101) 0 [(0, .ref (a 0)), (1, .ref (b 0))] [] (bw_cw g a c ++ bw_cw g b d) 0 0
  refine bw_aload_n 1 dX4_copyOf_0 rfl rfl ?_
  refine bw_ifnonnull 14 dX4_copyOf_1 (by decide) ?_
  refine bw_aload_n 1 dX4_copyOf_14 rfl rfl ?_
  refine bw_astore_n [(2, .ref (b 0)), (0, .ref (a 0)), (1, .ref (b 0))] dX4_copyOf_15 rfl (by decide) rfl ?_
  refine bw_aload_n 0 dX4_copyOf_16 rfl rfl ?_
  refine bw_aload_n 1 dX4_copyOf_17 rfl rfl ?_
  refine bw_callV [.ref (a 0)] [] [] 0 0 (wc := bw_cw g b d ++ bw_cw g a c) (s_X0_become l g (b 0) (b 1) (b 2) (b 3) (b 4) (b 5) (a 0) (a 1) (a 2) (a 3) (a 4) (a 5) d.1 d.2.1 d.2.2.1 d.2.2.2.1 d.2.2.2.2.1 d.2.2.2.2.2.1 d.2.2.2.2.2.2.1 d.2.2.2.2.2.2.2 c.1 c.2.1 c.2.2.1 c.2.2.2.1 c.2.2.2.2.1 c.2.2.2.2.2.1 c.2.2.2.2.2.2.1 c.2.2.2.2.2.2.2 res hf) rfl co_X0_become ini_X0 ml_X4_173 im_X0_become se_X0_become ar_X0_become ⟨Nat.le_of_ble_eq_true rfl, Nat.le_of_ble_eq_true rfl⟩ ⟨Nat.le_of_ble_eq_true rfl, Nat.le_of_ble_eq_true rfl⟩ rfl rfl (by rw [List.append_nil]; exact bw_pc _ _) (Nat.le_of_ble_eq_true rfl) dX4_copyOf_18 (fun r w1 hq => ?_)
  obtain ⟨rfl, rfl⟩ := hq
  refine bw_perm (ws1 := bw_cw g a c ++ bw_cw g b res) (show (bw_cw g a c ++ bw_cw g b res).Perm (bw_cw g b res ++ bw_cw g a c) from bw_pc _ _) ?_
  refine bw_st (st1 := []) rfl ?_
  refine bw_aload_n 0 dX4_copyOf_21 rfl rfl ?_
  exact bw_aret rfl (Nat.le_of_ble_eq_true rfl) (Nat.le_of_ble_eq_true rfl) dX4_copyOf_22 ⟨rfl, rfl⟩
theorem ar_X1_remember : yX1_remember.cls ≠ "java/lang/invoke/MethodHandle" ∧ yX1_remember.cls ≠ "java/lang/invoke/VarHandle" ∧ (parseMethodDescriptor yX1_remember.desc).map (fun d => d.parameters.length) = some 1 := ⟨by decide, by decide, by decide +kernel⟩
def f_X1_remember (vp0_bows vp0_given vp0_taken : Int32) (vp0_settings vp0_eyes vp0_favours vp0_numbers vp0_pauses : Nat → Int32) (vh : bwH) : Option bwH :=
  if vh.1 < 0 then some vh else if vh.1 < 6 then (bw_bec ((vh.2.2 (Int32.toNatClampNeg vh.1)).getD bw_c0) (vp0_bows, vp0_given, vp0_taken, vp0_settings, vp0_eyes, vp0_favours, vp0_numbers, vp0_pauses)).bind fun q => some ((vh.1 + 1) - (vh.1 + 1) / 6 * 6, (if 6 < vh.2.1 + 1 then 6 else vh.2.1 + 1), va_up vh.2.2 (Int32.toNatClampNeg vh.1) (some q)) else some vh
theorem bw_in6 {x : Int32} (h : ¬ x < 0) (h2 : x < 6) : bw_in x 6 := by
  intro q
  rcases q with q | q
  · exact h q
  · have h3 : x.toInt < 6 := Int32.lt_iff_toInt_lt.mp h2
    rw [Int32.toNatClampNeg] at q
    omega
theorem bw_inlt {x : Int32} {n : Nat} (h : bw_in x n) : x.toNatClampNeg < n := Nat.not_le.mp (fun q => h (Or.inr q))
def f_remC (c : bwCt) (vh : bwH) : Option bwH := f_X1_remember c.1 c.2.1 c.2.2.1 c.2.2.2.1 c.2.2.2.2.1 c.2.2.2.2.2.1 c.2.2.2.2.2.2.1 c.2.2.2.2.2.2.2 vh
set_option maxHeartbeats 4000000 in
set_option maxRecDepth 100000 in
theorem s_remC (l : Launch) (g : bwG) (a : Nat → Nat) (ah ah_states : Nat) (tad : bwHA) (c : bwCt) (vh : bwH) (res : bwH) (hf : f_remC c vh = some res) : bwS l g yX1_remember cX1_remember 2 none ({ frames := 3, cells := 6, slots := 101, locals := 65 } : Room) [.ref ah, .ref (a 0)] (bw_cw g a c ++ bw_hw g ah ah_states tad vh) (fun r w => r = none ∧ ∃ tad1 : bwHA, w = bw_cw g a c ++ bw_hw g ah ah_states tad1 res) := by
  refine bwS_of (by decide) (Nat.le_of_ble_eq_true rfl) ?_
  unfold f_remC f_X1_remember at hf
  obtain ⟨nx, sz, f⟩ := vh
  dsimp only at hf
  show bwR l g cX1_remember 2 RX1 "remember" none ({ frames := 3, cells := 6, slots := 101, locals := 65 } : Room) bwT (bwZ g (fun r w => r = none ∧ ∃ tad1 : bwHA, w = bw_cw g a c ++ bw_hw g ah ah_states tad1 res) 6 101) 0 [(0, .ref ah), (1, .ref (a 0))] [] (bw_cw g a c ++ bw_hw g ah ah_states tad (nx, sz, f)) 0 0
  refine bw_aload_n 0 dX1_remember_0 rfl rfl ?_
  refine bw_gf bkX1 6 1 (by decide) fl_X1_17 rfl rfl dX1_remember_1 ?_
  refine bw_if_lt 16 dX1_remember_4 (by decide) (fun c_1 => ?_) (fun c_1 => ?_)
  · have hf := bw_pos c_1 hf
    cases Option.some.inj hf
    exact bw_vret rfl (Nat.le_of_ble_eq_true rfl) (Nat.le_of_ble_eq_true rfl) dX1_remember_16 ⟨rfl, tad, rfl⟩
  · have hf := bw_neg c_1 hf
    refine bw_aload_n 0 dX1_remember_7 rfl rfl ?_
    refine bw_gf bkX1 6 1 (by decide) fl_X1_17 rfl rfl dX1_remember_8 ?_
    refine bw_bipush 6 dX1_remember_11 (by decide) ?_
    refine bw_icmp_lt 17 dX1_remember_13 (by decide) (fun c_2 => ?_) (fun c_2 => ?_)
    · have hf := bw_pos c_2 hf
      obtain ⟨q, hb, hf⟩ := bw_bind hf
      have hin : bw_in nx 6 := bw_in6 c_1 c_2
      have hk := bw_inlt hin
      refine bw_aload_n 0 dX1_remember_17 rfl rfl ?_
      refine bw_gf bkX1 6 0 (by decide) fl_X1_11 rfl rfl dX1_remember_18 ?_
      refine bw_aload_n 0 dX1_remember_21 rfl rfl ?_
      refine bw_gf bkX1 6 1 (by decide) fl_X1_17 rfl rfl dX1_remember_22 ?_
      refine bw_aload_n 1 dX1_remember_25 rfl rfl ?_
      refine bw_aload_n 0 dX1_remember_26 rfl rfl ?_
      refine bw_gf bkX1 6 0 (by decide) fl_X1_11 rfl rfl dX1_remember_27 ?_
      refine bw_aload_n 0 dX1_remember_30 rfl rfl ?_
      refine bw_gf bkX1 6 1 (by decide) fl_X1_17 rfl rfl dX1_remember_31 ?_
      refine bw_aald 7 rfl hin dX1_remember_34 ?_
      -- behind copyOf: the same for both
      have key : ∀ (b : Nat → Nat), bwR l g cX1_remember 2 RX1 "remember" none ({ frames := 3, cells := 6, slots := 101, locals := 65 } : Room) bwT (bwZ g (fun r w => r = none ∧ ∃ tad1 : bwHA, w = bw_cw g a c ++ bw_hw g ah ah_states tad1 res) 6 101) 38 [(0, .ref ah), (1, .ref (a 0))] [.ref (b 0), .int nx, .ref ah_states] ([(ah, .inr (1, [.ref ah_states, .int nx, .int sz])), (ah_states, .inl (g.2.2.2, 6, .inr (.inr (.inr (.inr (bw_sf tad f))))))] ++ (bw_rx g nx.toNatClampNeg tad f 6 ++ (bw_cw g a c ++ bw_cw g b q))) 6 101 := by
        intro b
        refine bw_perm (ws1 := [(ah, .inr (1, [.ref ah_states, .int nx, .int sz])), (ah_states, .inl (g.2.2.2, 6, .inr (.inr (.inr (.inr (bw_sf tad f))))))] ++ (bw_cw g b q ++ (bw_cw g a c ++ bw_rx g nx.toNatClampNeg tad f 6))) (List.Perm.append_left _ (bw_blk [bw_cw g b q, bw_cw g a c, bw_rx g nx.toNatClampNeg tad f 6] [bw_rx g nx.toNatClampNeg tad f 6, bw_cw g a c, bw_cw g b q] (bw_pick1 3 [2, 1, 0] rfl rfl (by decide)) (by simp only [List.flatten_cons, List.flatten_nil, List.append_nil]) (by simp only [List.flatten_cons, List.flatten_nil, List.append_nil]))) ?_
        refine bw_aast 1 2 ((ah, .inr (1, [.ref ah_states, .int nx, .int sz])) :: (ah_states, .inl (g.2.2.2, 6, .inr (.inr (.inr (.inr (va_up (bw_sf tad f) nx.toNatClampNeg (some (b 0)))))))) :: (bw_cw g b q ++ (bw_cw g a c ++ bw_rx g nx.toNatClampNeg tad f 6))) rfl rfl hin rfl dX1_remember_38 ?_
        rw [bw_up_sf tad f nx.toNatClampNeg b q]
        refine bw_aload_n 0 dX1_remember_39 rfl rfl ?_
        refine bw_aload_n 0 dX1_remember_40 rfl rfl ?_
        refine bw_gf bkX1 0 1 (by decide) fl_X1_17 rfl rfl dX1_remember_41 ?_
        refine bw_iconst 1 dX1_remember_44 (by decide) ?_
        refine bw_iadd dX1_remember_45 ?_
        refine bw_bipush 6 dX1_remember_46 (by decide) ?_
        refine bw_irem dX1_remember_48 (by decide) ?_
        refine bw_pf bkX1 0 1 ((ah, .inr (1, [.ref ah_states, .int ((nx + 1) - (nx + 1) / 6 * 6), .int sz])) :: (ah_states, .inl (g.2.2.2, 6, .inr (.inr (.inr (.inr (bw_sf (va_up tad nx.toNatClampNeg b) (va_up f nx.toNatClampNeg (some q)))))))) :: (bw_cw g b q ++ (bw_cw g a c ++ bw_rx g nx.toNatClampNeg tad f 6))) (by decide) fl_X1_17 rfl rfl rfl rfl rfl (Nat.le_of_ble_eq_true rfl) rfl dX1_remember_49 ?_
        refine bw_aload_n 0 dX1_remember_52 rfl rfl ?_
        refine bw_aload_n 0 dX1_remember_53 rfl rfl ?_
        refine bw_gf bkX1 0 2 (by decide) fl_X1_21 rfl rfl dX1_remember_54 ?_
        refine bw_iconst 1 dX1_remember_57 (by decide) ?_
        refine bw_iadd dX1_remember_58 ?_
        refine bw_bipush 6 dX1_remember_59 (by decide) ?_
        refine bw_mmin ml_X1_28 st_J9_min_7cf53 ini_J9 co_Math_min (Nat.le_of_ble_eq_true rfl) (Nat.le_of_ble_eq_true rfl) ⟨Nat.le_of_ble_eq_true rfl, Nat.le_of_ble_eq_true rfl⟩ dX1_remember_61 ?_
        refine bw_pf bkX1 0 2 ((ah, .inr (1, [.ref ah_states, .int ((nx + 1) - (nx + 1) / 6 * 6), .int (if 6 < sz + 1 then 6 else sz + 1)])) :: (ah_states, .inl (g.2.2.2, 6, .inr (.inr (.inr (.inr (bw_sf (va_up tad nx.toNatClampNeg b) (va_up f nx.toNatClampNeg (some q)))))))) :: (bw_cw g b q ++ (bw_cw g a c ++ bw_rx g nx.toNatClampNeg tad f 6))) (by decide) fl_X1_21 rfl rfl rfl rfl rfl (Nat.le_of_ble_eq_true rfl) rfl dX1_remember_64 ?_
        cases Option.some.inj hf
        refine bw_perm (ws1 := bw_cw g a c ++ bw_hw g ah ah_states (va_up tad nx.toNatClampNeg b) ((nx + 1) - (nx + 1) / 6 * 6, (if 6 < sz + 1 then 6 else sz + 1), va_up f nx.toNatClampNeg (some q))) ?_ ?_
        · refine (List.Perm.append_left _ (List.Perm.cons _ (List.Perm.cons _ (bw_up_rw g hk tad f b q).symm))).trans ?_
          exact bw_blk [bw_cw g a c, [(ah, .inr (1, [.ref ah_states, .int ((nx + 1) - (nx + 1) / 6 * 6), .int (if 6 < sz + 1 then 6 else sz + 1)])), (ah_states, .inl (g.2.2.2, 6, .inr (.inr (.inr (.inr (bw_sf (va_up tad nx.toNatClampNeg b) (va_up f nx.toNatClampNeg (some q))))))))], bw_cw g b q, bw_rx g nx.toNatClampNeg tad f 6] [[(ah, .inr (1, [.ref ah_states, .int ((nx + 1) - (nx + 1) / 6 * 6), .int (if 6 < sz + 1 then 6 else sz + 1)])), (ah_states, .inl (g.2.2.2, 6, .inr (.inr (.inr (.inr (bw_sf (va_up tad nx.toNatClampNeg b) (va_up f nx.toNatClampNeg (some q))))))))], bw_cw g b q, bw_cw g a c, bw_rx g nx.toNatClampNeg tad f 6] (bw_pick1 4 [2, 0, 1, 3] rfl rfl (by decide)) (by simp only [List.flatten_cons, List.flatten_nil, List.append_nil, List.cons_append, List.nil_append]) (by simp only [List.flatten_cons, List.flatten_nil, List.append_nil, List.cons_append, List.nil_append])
        exact bw_vret rfl (Nat.le_of_ble_eq_true rfl) (Nat.le_of_ble_eq_true rfl) dX1_remember_67 ⟨rfl, va_up tad nx.toNatClampNeg b, rfl⟩
      cases hfk : f nx.toNatClampNeg with
      | none =>
        rw [hfk] at hb
        refine bw_st (st1 := [.null, .ref (a 0), .int nx, .ref ah_states]) (by show va_rf ((f nx.toNatClampNeg).map _) :: _ = _; rw [hfk]; rfl) ?_
        refine bw_callSN "BowSpeeches" [.ref (a 0), .null] [.int nx, .ref ah_states] ([(ah, .inr (1, [.ref ah_states, .int nx, .int sz])), (ah_states, .inl (g.2.2.2, 6, .inr (.inr (.inr (.inr (bw_sf tad f))))))] ++ bw_rx g nx.toNatClampNeg tad f 6) (s_X4_copyOf0 l g a c q hb) rfl co_X4_copyOf ini_X4 mn_X1_24 st_X4_copyOf ar_X4_copyOf ⟨Nat.le_of_ble_eq_true rfl, Nat.le_of_ble_eq_true rfl⟩ ⟨Nat.le_of_ble_eq_true rfl, Nat.le_of_ble_eq_true rfl⟩ ?_ (Nat.le_of_ble_eq_true rfl) dX1_remember_35 (fun r w1 hq => ?_)
        · have h1 := bw_split g nx.toNatClampNeg tad f 6 hk
          rw [hfk] at h1
          exact List.Perm.append_left _ (List.Perm.cons _ (List.Perm.cons _ h1))
        obtain ⟨b, rfl, rfl⟩ := hq
        refine bw_ws (List.append_assoc _ _ _) ?_
        exact key b
      | some d0 =>
        rw [hfk] at hb
        refine bw_st (st1 := [.ref (tad nx.toNatClampNeg 0), .ref (a 0), .int nx, .ref ah_states]) (by show va_rf ((f nx.toNatClampNeg).map _) :: _ = _; rw [hfk]; rfl) ?_
        refine bw_callSN "BowSpeeches" [.ref (a 0), .ref (tad nx.toNatClampNeg 0)] [.int nx, .ref ah_states] ([(ah, .inr (1, [.ref ah_states, .int nx, .int sz])), (ah_states, .inl (g.2.2.2, 6, .inr (.inr (.inr (.inr (bw_sf tad f))))))] ++ bw_rx g nx.toNatClampNeg tad f 6) (s_X4_copyOf1 l g a (tad nx.toNatClampNeg) c d0 q hb) rfl co_X4_copyOf ini_X4 mn_X1_24 st_X4_copyOf ar_X4_copyOf ⟨Nat.le_of_ble_eq_true rfl, Nat.le_of_ble_eq_true rfl⟩ ⟨Nat.le_of_ble_eq_true rfl, Nat.le_of_ble_eq_true rfl⟩ ?_ (Nat.le_of_ble_eq_true rfl) dX1_remember_35 (fun r w1 hq => ?_)
        · have h1 := bw_split g nx.toNatClampNeg tad f 6 hk
          rw [hfk] at h1
          refine List.Perm.trans ?_ (List.Perm.append_left _ (List.Perm.cons _ (List.Perm.cons _ h1)))
          exact bw_blk [bw_cw g a c, bw_cw g (tad nx.toNatClampNeg) d0, [(ah, .inr (1, [.ref ah_states, .int nx, .int sz])), (ah_states, .inl (g.2.2.2, 6, .inr (.inr (.inr (.inr (bw_sf tad f))))))], bw_rx g nx.toNatClampNeg tad f 6] [bw_cw g a c, [(ah, .inr (1, [.ref ah_states, .int nx, .int sz])), (ah_states, .inl (g.2.2.2, 6, .inr (.inr (.inr (.inr (bw_sf tad f))))))], bw_cw g (tad nx.toNatClampNeg) d0, bw_rx g nx.toNatClampNeg tad f 6] (bw_pick1 4 [0, 2, 1, 3] rfl rfl (by decide)) (by simp only [List.flatten_cons, List.flatten_nil, List.append_nil, List.cons_append, List.nil_append]; rfl) (by simp only [List.flatten_cons, List.flatten_nil, List.append_nil, List.append_assoc, List.cons_append, List.nil_append])
        obtain ⟨rfl, rfl⟩ := hq
        refine bw_ws (List.append_assoc _ _ _) ?_
        exact key (tad nx.toNatClampNeg)
    · have hf := bw_neg c_2 hf
      cases Option.some.inj hf
      exact bw_vret rfl (Nat.le_of_ble_eq_true rfl) (Nat.le_of_ble_eq_true rfl) dX1_remember_16 ⟨rfl, tad, rfl⟩
theorem s_X1_remember (l : Launch) (g : bwG) (ap0 ap0_settings ap0_eyes ap0_favours ap0_numbers ap0_pauses ah ah_states : Nat) (tad : bwHA) (vp0_bows vp0_given vp0_taken : Int32) (vp0_settings vp0_eyes vp0_favours vp0_numbers vp0_pauses : Nat → Int32) (vh : bwH) (res : bwH) (hf : f_X1_remember vp0_bows vp0_given vp0_taken vp0_settings vp0_eyes vp0_favours vp0_numbers vp0_pauses vh = some res) : bwS l g yX1_remember cX1_remember 2 none ({ frames := 3, cells := 6, slots := 101, locals := 65 } : Room) [.ref ah, .ref ap0] ((ap0, .inr (0, [.ref ap0_settings, .ref ap0_eyes, .ref ap0_favours, .ref ap0_numbers, .ref ap0_pauses, .int vp0_bows, .int vp0_given, .int vp0_taken])) :: (ap0_settings, .inl (g.2.1, 3, .inl vp0_settings)) :: (ap0_eyes, .inl (g.2.1, 6, .inl vp0_eyes)) :: (ap0_favours, .inl (g.2.1, 36, .inl vp0_favours)) :: (ap0_numbers, .inl (g.2.1, 24, .inl vp0_numbers)) :: (ap0_pauses, .inl (g.2.1, 24, .inl vp0_pauses)) :: bw_hw g ah ah_states tad vh) (fun r w => r = none ∧ ∃ tad1 : bwHA, w = (ap0, .inr (0, [.ref ap0_settings, .ref ap0_eyes, .ref ap0_favours, .ref ap0_numbers, .ref ap0_pauses, .int vp0_bows, .int vp0_given, .int vp0_taken])) :: (ap0_settings, .inl (g.2.1, 3, .inl vp0_settings)) :: (ap0_eyes, .inl (g.2.1, 6, .inl vp0_eyes)) :: (ap0_favours, .inl (g.2.1, 36, .inl vp0_favours)) :: (ap0_numbers, .inl (g.2.1, 24, .inl vp0_numbers)) :: (ap0_pauses, .inl (g.2.1, 24, .inl vp0_pauses)) :: bw_hw g ah ah_states tad1 res) :=
  s_remC l g (bw_ad6 ap0 ap0_settings ap0_eyes ap0_favours ap0_numbers ap0_pauses) ah ah_states tad (vp0_bows, vp0_given, vp0_taken, vp0_settings, vp0_eyes, vp0_favours, vp0_numbers, vp0_pauses) vh res hf
theorem ar_X1_stepBack : yX1_stepBack.cls ≠ "java/lang/invoke/MethodHandle" ∧ yX1_stepBack.cls ≠ "java/lang/invoke/VarHandle" ∧ (parseMethodDescriptor yX1_stepBack.desc).map (fun d => d.parameters.length) = some 1 := ⟨by decide, by decide, by decide +kernel⟩
def f_sbC (c : bwCt) (vh : bwH) : Option (Int32 × bwCt × bwH) :=
  if vh.2.1 ≤ 0 then some (0, c, vh) else if (vh.1 + 6 - 1 - (vh.1 + 6 - 1) / 6 * 6) < 0 then some (0, c, vh) else if bw_in (vh.1 + 6 - 1 - (vh.1 + 6 - 1) / 6 * 6) 6 then
    (match vh.2.2 (Int32.toNatClampNeg (vh.1 + 6 - 1 - (vh.1 + 6 - 1) / 6 * 6)) with
    | none => some (0, c, vh)
    | some d => (bw_bec c d).bind fun q => some (1, q, ((vh.1 + 6 - 1 - (vh.1 + 6 - 1) / 6 * 6), vh.2.1 - 1, vh.2.2)))
  else none
def f_X1_stepBack (vp0_bows vp0_given vp0_taken : Int32) (vp0_settings vp0_eyes vp0_favours vp0_numbers vp0_pauses : Nat → Int32) (vh : bwH) : Option (Int32 × Int32 × Int32 × Int32 × (Nat → Int32) × (Nat → Int32) × (Nat → Int32) × (Nat → Int32) × (Nat → Int32) × bwH) :=
  (f_sbC (vp0_bows, vp0_given, vp0_taken, vp0_settings, vp0_eyes, vp0_favours, vp0_numbers, vp0_pauses) vh).bind fun q => some (q.1, q.2.1.1, q.2.1.2.1, q.2.1.2.2.1, q.2.1.2.2.2.1, q.2.1.2.2.2.2.1, q.2.1.2.2.2.2.2.1, q.2.1.2.2.2.2.2.2.1, q.2.1.2.2.2.2.2.2.2, q.2.2)
set_option maxHeartbeats 4000000 in
set_option maxRecDepth 100000 in
theorem s_sbC (l : Launch) (g : bwG) (a : Nat → Nat) (ah ah_states : Nat) (tad : bwHA) (c : bwCt) (vh : bwH) (res : Int32 × bwCt × bwH) (hf : f_sbC c vh = some res) : bwS l g yX1_stepBack cX1_stepBack 3 (some .boolean) ({ frames := 2, cells := 6, slots := 101, locals := 44 } : Room) [.ref ah, .ref (a 0)] (bw_cw g a c ++ bw_hw g ah ah_states tad vh) (fun r w => r = some (.int res.1) ∧ w = bw_cw g a res.2.1 ++ bw_hw g ah ah_states tad res.2.2) := by
  refine bwS_of (by decide) (Nat.le_of_ble_eq_true rfl) ?_
  unfold f_sbC at hf
  obtain ⟨nx, sz, f⟩ := vh
  dsimp only at hf
  show bwR l g cX1_stepBack 3 RX1 "stepBack" (some .boolean) ({ frames := 2, cells := 6, slots := 101, locals := 44 } : Room) bwT (bwZ g (fun r w => r = some (.int res.1) ∧ w = bw_cw g a res.2.1 ++ bw_hw g ah ah_states tad res.2.2) 6 101) 0 [(0, .ref ah), (1, .ref (a 0))] [] (bw_cw g a c ++ bw_hw g ah ah_states tad (nx, sz, f)) 0 0
  refine bw_aload_n 0 dX1_stepBack_0 rfl rfl ?_
  refine bw_gf bkX1 6 1 (by decide) fl_X1_17 rfl rfl dX1_stepBack_1 ?_
  refine bw_bipush 6 dX1_stepBack_4 (by decide) ?_
  refine bw_iadd dX1_stepBack_6 ?_
  refine bw_iconst 1 dX1_stepBack_7 (by decide) ?_
  refine bw_isub dX1_stepBack_8 ?_
  refine bw_bipush 6 dX1_stepBack_9 (by decide) ?_
  refine bw_irem dX1_stepBack_11 (by decide) ?_
  obtain ⟨i, hi⟩ : ∃ i : Int32, i = (nx + 6 - 1 - (nx + 6 - 1) / 6 * 6) := ⟨_, rfl⟩
  rw [← hi] at hf ⊢
  refine bw_istore_n [(2, .int i), (0, .ref ah), (1, .ref (a 0))] dX1_stepBack_12 rfl (by decide) rfl ?_
  refine bw_aload_n 1 dX1_stepBack_13 rfl rfl ?_
  refine bw_gf bkX1 6 2 (by decide) fl_X1_21 rfl rfl dX1_stepBack_14 ?_
  refine bw_if_le 33 dX1_stepBack_17 (by decide) (fun c_1 => ?_) (fun c_1 => ?_)
  · have hf := bw_pos c_1 hf
    cases Option.some.inj hf
    refine bw_iconst 0 dX1_stepBack_33 (by decide) ?_
    exact bw_ret rfl rfl (Nat.le_of_ble_eq_true rfl) (Nat.le_of_ble_eq_true rfl) dX1_stepBack_34 ⟨rfl, rfl⟩
  · have hf := bw_neg c_1 hf
    refine bw_iload_n 0 dX1_stepBack_20 rfl rfl ?_
    refine bw_if_lt 33 dX1_stepBack_21 (by decide) (fun c_2 => ?_) (fun c_2 => ?_)
    · have hf := bw_pos c_2 hf
      cases Option.some.inj hf
      refine bw_iconst 0 dX1_stepBack_33 (by decide) ?_
      exact bw_ret rfl rfl (Nat.le_of_ble_eq_true rfl) (Nat.le_of_ble_eq_true rfl) dX1_stepBack_34 ⟨rfl, rfl⟩
    · have hf := bw_neg c_2 hf
      obtain ⟨hin, hf⟩ := bw_chk hf
      have hk := bw_inlt hin
      refine bw_aload_n 1 dX1_stepBack_24 rfl rfl ?_
      refine bw_gf bkX1 6 0 (by decide) fl_X1_11 rfl rfl dX1_stepBack_25 ?_
      refine bw_iload_n 0 dX1_stepBack_28 rfl rfl ?_
      refine bw_aald 7 rfl hin dX1_stepBack_29 ?_
      cases hfk : f i.toNatClampNeg with
      | none =>
        rw [hfk] at hf
        cases Option.some.inj hf
        refine bw_st (st1 := [.null]) (by show va_rf ((f i.toNatClampNeg).map _) :: _ = _; rw [hfk]; rfl) ?_
        refine bw_ifnonnullN dX1_stepBack_30 ?_
        refine bw_iconst 0 dX1_stepBack_33 (by decide) ?_
        exact bw_ret rfl rfl (Nat.le_of_ble_eq_true rfl) (Nat.le_of_ble_eq_true rfl) dX1_stepBack_34 ⟨rfl, rfl⟩
      | some d0 =>
        rw [hfk] at hf
        obtain ⟨q, hb, hf⟩ := bw_bind hf
        cases Option.some.inj hf
        refine bw_st (st1 := [.ref (tad i.toNatClampNeg 0)]) (by show va_rf ((f i.toNatClampNeg).map _) :: _ = _; rw [hfk]; rfl) ?_
        refine bw_ifnonnull 35 dX1_stepBack_30 (by decide) ?_
        refine bw_aload_n 2 dX1_stepBack_35 rfl rfl ?_
        refine bw_aload_n 1 dX1_stepBack_36 rfl rfl ?_
        refine bw_gf bkX1 6 0 (by decide) fl_X1_11 rfl rfl dX1_stepBack_37 ?_
        refine bw_iload_n 0 dX1_stepBack_40 rfl rfl ?_
        refine bw_aald 7 rfl hin dX1_stepBack_41 ?_
        refine bw_st (st1 := [.ref (tad i.toNatClampNeg 0), .ref (a 0)]) (by show va_rf ((f i.toNatClampNeg).map _) :: _ = _; rw [hfk]; rfl) ?_
        have h1 := bw_split g i.toNatClampNeg tad f 6 hk
        rw [hfk] at h1
        refine bw_callV [.ref (tad i.toNatClampNeg 0)] [] ([(ah, .inr (1, [.ref ah_states, .int nx, .int sz])), (ah_states, .inl (g.2.2.2, 6, .inr (.inr (.inr (.inr (bw_sf tad f))))))] ++ bw_rx g i.toNatClampNeg tad f 6) 0 0 (wc := bw_cw g a c ++ bw_cw g (tad i.toNatClampNeg) d0) (s_X0_become l g (a 0) (a 1) (a 2) (a 3) (a 4) (a 5) ((tad i.toNatClampNeg) 0) ((tad i.toNatClampNeg) 1) ((tad i.toNatClampNeg) 2) ((tad i.toNatClampNeg) 3) ((tad i.toNatClampNeg) 4) ((tad i.toNatClampNeg) 5) c.1 c.2.1 c.2.2.1 c.2.2.2.1 c.2.2.2.2.1 c.2.2.2.2.2.1 c.2.2.2.2.2.2.1 c.2.2.2.2.2.2.2 d0.1 d0.2.1 d0.2.2.1 d0.2.2.2.1 d0.2.2.2.2.1 d0.2.2.2.2.2.1 d0.2.2.2.2.2.2.1 d0.2.2.2.2.2.2.2 q hb) rfl co_X0_become ini_X0 ml_X1_34 im_X0_become se_X0_become ar_X0_become ⟨Nat.le_of_ble_eq_true rfl, Nat.le_of_ble_eq_true rfl⟩ ⟨Nat.le_of_ble_eq_true rfl, Nat.le_of_ble_eq_true rfl⟩ rfl rfl ?_ (Nat.le_of_ble_eq_true rfl) dX1_stepBack_42 (fun r w1 hq => ?_)
        · refine List.Perm.trans ?_ (List.Perm.append_left _ (List.Perm.cons _ (List.Perm.cons _ h1)))
          exact bw_blk [bw_cw g a c, bw_cw g (tad i.toNatClampNeg) d0, [(ah, .inr (1, [.ref ah_states, .int nx, .int sz])), (ah_states, .inl (g.2.2.2, 6, .inr (.inr (.inr (.inr (bw_sf tad f))))))], bw_rx g i.toNatClampNeg tad f 6] [bw_cw g a c, [(ah, .inr (1, [.ref ah_states, .int nx, .int sz])), (ah_states, .inl (g.2.2.2, 6, .inr (.inr (.inr (.inr (bw_sf tad f))))))], bw_cw g (tad i.toNatClampNeg) d0, bw_rx g i.toNatClampNeg tad f 6] (bw_pick1 4 [0, 2, 1, 3] rfl rfl (by decide)) (by simp only [List.flatten_cons, List.flatten_nil, List.append_nil, List.cons_append, List.nil_append]; rfl) (by simp only [List.flatten_cons, List.flatten_nil, List.append_nil, List.append_assoc, List.cons_append, List.nil_append])
        obtain ⟨rfl, rfl⟩ := hq
        refine bw_perm (ws1 := bw_cw g a q ++ bw_hw g ah ah_states tad (nx, sz, f)) ?_ ?_
        · refine List.Perm.trans (List.Perm.append_left _ (List.Perm.cons _ (List.Perm.cons _ h1.symm))) ?_
          show _root_.List.Perm _ (([(ah, .inr (1, [.ref ah_states, .int nx, .int sz])), (ah_states, .inl (g.2.2.2, 6, .inr (.inr (.inr (.inr (bw_sf tad f))))))] ++ bw_rx g i.toNatClampNeg tad f 6) ++ (bw_cw g a q ++ bw_cw g (tad i.toNatClampNeg) d0))
          exact bw_blk [bw_cw g a q, [(ah, .inr (1, [.ref ah_states, .int nx, .int sz])), (ah_states, .inl (g.2.2.2, 6, .inr (.inr (.inr (.inr (bw_sf tad f))))))], bw_cw g (tad i.toNatClampNeg) d0, bw_rx g i.toNatClampNeg tad f 6] [[(ah, .inr (1, [.ref ah_states, .int nx, .int sz])), (ah_states, .inl (g.2.2.2, 6, .inr (.inr (.inr (.inr (bw_sf tad f))))))], bw_rx g i.toNatClampNeg tad f 6, bw_cw g a q, bw_cw g (tad i.toNatClampNeg) d0] (bw_pick1 4 [2, 0, 3, 1] rfl rfl (by decide)) (by simp only [List.flatten_cons, List.flatten_nil, List.append_nil, List.append_assoc, List.cons_append, List.nil_append]) (by simp only [List.flatten_cons, List.flatten_nil, List.append_nil, List.cons_append, List.nil_append]; rfl)
        refine bw_st (st1 := []) rfl ?_
        refine bw_aload_n 1 dX1_stepBack_45 rfl rfl ?_
        refine bw_iload_n 0 dX1_stepBack_46 rfl rfl ?_
        refine bw_pf bkX1 6 1 (bw_cw g a q ++ bw_hw g ah ah_states tad (i, sz, f)) (by decide) fl_X1_17 rfl rfl rfl rfl rfl (Nat.le_of_ble_eq_true rfl) rfl dX1_stepBack_47 ?_
        refine bw_aload_n 1 dX1_stepBack_50 rfl rfl ?_
        refine bw_dup dX1_stepBack_51 rfl ?_
        refine bw_gf bkX1 6 2 (by decide) fl_X1_21 rfl rfl dX1_stepBack_52 ?_
        refine bw_iconst 1 dX1_stepBack_55 (by decide) ?_
        refine bw_isub dX1_stepBack_56 ?_
        refine bw_pf bkX1 6 2 (bw_cw g a q ++ bw_hw g ah ah_states tad (i, sz - 1, f)) (by decide) fl_X1_21 rfl rfl rfl rfl rfl (Nat.le_of_ble_eq_true rfl) rfl dX1_stepBack_57 ?_
        refine bw_iconst 1 dX1_stepBack_60 (by decide) ?_
        exact bw_ret rfl rfl (Nat.le_of_ble_eq_true rfl) (Nat.le_of_ble_eq_true rfl) dX1_stepBack_61 ⟨rfl, rfl⟩
theorem bw_weakS {l : Launch} {g : bwG} {y : MethodName} {cc : ByteArray} {nL : Nat} {ret : Option FieldType} {rm : Room} {as : List Value} {ws : va_W} {Q Q' : Option Value → va_W → Prop} (h : bwS l g y cc nL ret rm as ws Q) (hQ : ∀ r w, Q r w → Q' r w) : bwS l g y cc nL ret rm as ws Q' := by
  intro sz p e ha hc hk s m args below hf hap hP hK
  obtain ⟨n, o, h1, h2, h3, ⟨⟨⟨r, w, e1, e2, e3⟩, h4⟩, h5⟩⟩ := h sz p e ha hc hk s m args below hf hap hP hK
  exact ⟨n, o, h1, h2, h3, ⟨⟨⟨r, w, e1, hQ r w e2, e3⟩, h4⟩, h5⟩⟩
theorem s_X1_stepBack (l : Launch) (g : bwG) (ap0 ap0_settings ap0_eyes ap0_favours ap0_numbers ap0_pauses ah ah_states : Nat) (tad : bwHA) (vp0_bows vp0_given vp0_taken : Int32) (vp0_settings vp0_eyes vp0_favours vp0_numbers vp0_pauses : Nat → Int32) (vh : bwH) (res : Int32 × Int32 × Int32 × Int32 × (Nat → Int32) × (Nat → Int32) × (Nat → Int32) × (Nat → Int32) × (Nat → Int32) × bwH) (hf : f_X1_stepBack vp0_bows vp0_given vp0_taken vp0_settings vp0_eyes vp0_favours vp0_numbers vp0_pauses vh = some res) : bwS l g yX1_stepBack cX1_stepBack 3 (some .boolean) ({ frames := 2, cells := 6, slots := 101, locals := 44 } : Room) [.ref ah, .ref ap0] ((ap0, .inr (0, [.ref ap0_settings, .ref ap0_eyes, .ref ap0_favours, .ref ap0_numbers, .ref ap0_pauses, .int vp0_bows, .int vp0_given, .int vp0_taken])) :: (ap0_settings, .inl (g.2.1, 3, .inl vp0_settings)) :: (ap0_eyes, .inl (g.2.1, 6, .inl vp0_eyes)) :: (ap0_favours, .inl (g.2.1, 36, .inl vp0_favours)) :: (ap0_numbers, .inl (g.2.1, 24, .inl vp0_numbers)) :: (ap0_pauses, .inl (g.2.1, 24, .inl vp0_pauses)) :: bw_hw g ah ah_states tad vh) (fun r w => r = some (.int res.1) ∧ ∃ tad1 : bwHA, w = (ap0, .inr (0, [.ref ap0_settings, .ref ap0_eyes, .ref ap0_favours, .ref ap0_numbers, .ref ap0_pauses, .int res.2.1, .int res.2.2.1, .int res.2.2.2.1])) :: (ap0_settings, .inl (g.2.1, 3, .inl res.2.2.2.2.1)) :: (ap0_eyes, .inl (g.2.1, 6, .inl res.2.2.2.2.2.1)) :: (ap0_favours, .inl (g.2.1, 36, .inl res.2.2.2.2.2.2.1)) :: (ap0_numbers, .inl (g.2.1, 24, .inl res.2.2.2.2.2.2.2.1)) :: (ap0_pauses, .inl (g.2.1, 24, .inl res.2.2.2.2.2.2.2.2.1)) :: bw_hw g ah ah_states tad1 res.2.2.2.2.2.2.2.2.2) := by
  unfold f_X1_stepBack at hf
  obtain ⟨q, hq, hf⟩ := bw_bind hf
  cases Option.some.inj hf
  refine bw_weakS (s_sbC l g (bw_ad6 ap0 ap0_settings ap0_eyes ap0_favours ap0_numbers ap0_pauses) ah ah_states tad (vp0_bows, vp0_given, vp0_taken, vp0_settings, vp0_eyes, vp0_favours, vp0_numbers, vp0_pauses) vh q hq) (fun r w h => ?_)
  exact ⟨h.1, tad, h.2⟩
