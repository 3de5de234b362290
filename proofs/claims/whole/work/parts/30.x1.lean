def f_X4_copyRow_L2 : Nat → (Nat) → (Nat) → (Nat → Int32) → (Nat → Int32) → (Int32) → Option ((Nat → Int32))
  | 0, _, _, _, _, _ => none
  | fu + 1, np0, np1, vp0, vp1, x2 => (if (Int32.ofNat np0) ≤ x2 then some vp1 else (if (Int32.ofNat np1) ≤ x2 then some vp1 else (if bw_in x2 np0 then (if bw_in x2 np1 then (f_X4_copyRow_L2 fu np0 np1 vp0 ((upd vp1 (Int32.toNatClampNeg x2) ((vp0 (Int32.toNatClampNeg x2))))) ((x2 + 1))) else none) else none)))
set_option maxHeartbeats 4000000 in
set_option maxRecDepth 100000 in
theorem s_X4_copyRow_L2 (l : Launch) (g : bwG) (ap0 ap1 np0 np1 : Nat) (fu : Nat) : ∀ (vp0 : Nat → Int32) (vp1 : Nat → Int32) (x2 : Int32) (res : (Nat → Int32)), f_X4_copyRow_L2 fu np0 np1 vp0 vp1 x2 = some res → bwR l g cX4_copyRow 3 RX4 "copyRow" none ({ frames := 0, cells := 0, slots := 0, locals := 0 } : Room) bwT (bwZ g (fun r w => r = none ∧ w = [(ap0, .inl (g.2.1, np0, .inl vp0)), (ap1, .inl (g.2.1, np1, .inl res))]) 0 0) 2 [(0, .ref ap0), (1, .ref ap1), (2, .int x2)] [] ([(ap0, .inl (g.2.1, np0, .inl vp0)), (ap1, .inl (g.2.1, np1, .inl vp1))]) 0 0 := by
  induction fu with
  | zero => intro vp0 vp1 x2 res hf; exact absurd hf (by intro h; cases h)
  | succ fu ih =>
    intro vp0 vp1 x2 res hf
    rw [f_X4_copyRow_L2] at hf
    refine bw_iload_n 2 dX4_copyRow_2 rfl rfl ?_
    refine bw_aload_n 0 dX4_copyRow_3 rfl rfl ?_
    refine bw_alen 0 0 (Int32.ofNat np0) rfl rfl rfl dX4_copyRow_4 ?_
    refine bw_icmp_ge 26 dX4_copyRow_5 (by decide) (fun c_5 => ?_) (fun c_5 => ?_)
    · have hf := bw_pos c_5 hf
      cases Option.some.inj hf
      exact bw_vret rfl (Nat.le_of_ble_eq_true rfl) (Nat.le_of_ble_eq_true rfl) dX4_copyRow_26 ⟨rfl, rfl⟩
    · have hf := bw_neg c_5 hf
      refine bw_iload_n 2 dX4_copyRow_8 rfl rfl ?_
      refine bw_aload_n 1 dX4_copyRow_9 rfl rfl ?_
      refine bw_alen 1 0 (Int32.ofNat np1) rfl rfl rfl dX4_copyRow_10 ?_
      refine bw_icmp_ge 26 dX4_copyRow_11 (by decide) (fun c_6 => ?_) (fun c_6 => ?_)
      · have hf := bw_pos c_6 hf
        cases Option.some.inj hf
        exact bw_vret rfl (Nat.le_of_ble_eq_true rfl) (Nat.le_of_ble_eq_true rfl) dX4_copyRow_26 ⟨rfl, rfl⟩
      · have hf := bw_neg c_6 hf
        refine bw_aload_n 1 dX4_copyRow_14 rfl rfl ?_
        refine bw_iload_n 2 dX4_copyRow_15 rfl rfl ?_
        refine bw_aload_n 0 dX4_copyRow_16 rfl rfl ?_
        refine bw_iload_n 2 dX4_copyRow_17 rfl rfl ?_
        obtain ⟨h_7, hf⟩ := bw_chk hf
        refine bw_iald 0 rfl h_7 dX4_copyRow_18 ?_
        obtain ⟨h_8, hf⟩ := bw_chk hf
        refine bw_iast 1 ([(ap0, .inl (g.2.1, np0, .inl vp0)), (ap1, .inl (g.2.1, np1, .inl ((upd vp1 (Int32.toNatClampNeg x2) ((vp0 (Int32.toNatClampNeg x2)))))))]) rfl h_8 rfl dX4_copyRow_19 ?_
        refine bw_iinc 2 (x2 + 1) [(2, .int ((x2 + 1))), (0, .ref ap0), (1, .ref ap1)] dX4_copyRow_20 rfl rfl (by decide) rfl ?_
        refine bw_goto 2 dX4_copyRow_23 (by decide) ?_
        refine bw_lv [1, 2, 0] rfl ?_
        exact ih vp0 ((upd vp1 (Int32.toNatClampNeg x2) ((vp0 (Int32.toNatClampNeg x2))))) ((x2 + 1)) _ hf
theorem ar_X4_copyRow : yX4_copyRow.cls ≠ "java/lang/invoke/MethodHandle" ∧ yX4_copyRow.cls ≠ "java/lang/invoke/VarHandle" ∧ (parseMethodDescriptor yX4_copyRow.desc).map (fun d => d.parameters.length) = some 2 := ⟨by decide, by decide, by decide +kernel⟩
def f_X4_copyRow (np0 np1 : Nat) (vp0 : Nat → Int32) (vp1 : Nat → Int32)  : Option ((Nat → Int32)) := (f_X4_copyRow_L2 bw_F np0 np1 vp0 vp1 0)
set_option maxHeartbeats 4000000 in
set_option maxRecDepth 100000 in
theorem s_X4_copyRow (l : Launch) (g : bwG) (ap0 ap1 np0 np1 : Nat) (vp0 : Nat → Int32) (vp1 : Nat → Int32)  (res : (Nat → Int32)) (hf : f_X4_copyRow np0 np1 vp0 vp1  = some res) : bwS l g yX4_copyRow cX4_copyRow 3 none ({ frames := 0, cells := 0, slots := 0, locals := 0 } : Room) [.ref ap0, .ref ap1] ([(ap0, .inl (g.2.1, np0, .inl vp0)), (ap1, .inl (g.2.1, np1, .inl vp1))]) (fun r w => r = none ∧ w = [(ap0, .inl (g.2.1, np0, .inl vp0)), (ap1, .inl (g.2.1, np1, .inl res))]) := by
  refine bwS_of (by decide) (Nat.le_of_ble_eq_true rfl) ?_
  unfold f_X4_copyRow at hf
  show bwR l g cX4_copyRow 3 RX4 "copyRow" none ({ frames := 0, cells := 0, slots := 0, locals := 0 } : Room) bwT (bwZ g (fun r w => r = none ∧ w = [(ap0, .inl (g.2.1, np0, .inl vp0)), (ap1, .inl (g.2.1, np1, .inl res))]) 0 0) 0 [(0, .ref ap0), (1, .ref ap1)] [] ([(ap0, .inl (g.2.1, np0, .inl vp0)), (ap1, .inl (g.2.1, np1, .inl vp1))]) 0 0
  refine bw_iconst 0 dX4_copyRow_0 (by decide) ?_
  refine bw_istore_n [(2, .int 0), (0, .ref ap0), (1, .ref ap1)] dX4_copyRow_1 rfl (by decide) rfl ?_
  refine bw_lv [1, 2, 0] rfl ?_
  exact s_X4_copyRow_L2 l g ap0 ap1 np0 np1 bw_F vp0 vp1 0 _ hf
theorem ar_X0_become : yX0_become.cls ≠ "java/lang/invoke/MethodHandle" ∧ yX0_become.cls ≠ "java/lang/invoke/VarHandle" ∧ (parseMethodDescriptor yX0_become.desc).map (fun d => d.parameters.length) = some 1 := ⟨by decide, by decide, by decide +kernel⟩
def f_X0_become (vh_bows : Int32) (vh_given : Int32) (vh_taken : Int32) (vh_settings : Nat → Int32) (vh_eyes : Nat → Int32) (vh_favours : Nat → Int32) (vh_numbers : Nat → Int32) (vh_pauses : Nat → Int32) (vp0_bows : Int32) (vp0_given : Int32) (vp0_taken : Int32) (vp0_settings : Nat → Int32) (vp0_eyes : Nat → Int32) (vp0_favours : Nat → Int32) (vp0_numbers : Nat → Int32) (vp0_pauses : Nat → Int32)  : Option ((Int32) × (Int32) × (Int32) × (Nat → Int32) × (Nat → Int32) × (Nat → Int32) × (Nat → Int32) × (Nat → Int32)) := ((f_X4_copyRow 3 3 vp0_settings vh_settings).bind fun q_6 => ((f_X4_copyRow 6 6 vp0_eyes vh_eyes).bind fun q_7 => ((f_X4_copyRow 36 36 vp0_favours vh_favours).bind fun q_8 => ((f_X4_copyRow 24 24 vp0_numbers vh_numbers).bind fun q_9 => ((f_X4_copyRow 24 24 vp0_pauses vh_pauses).bind fun q_10 => some (vp0_bows, vp0_given, vp0_taken, q_6, q_7, q_8, q_9, q_10))))))
set_option maxHeartbeats 4000000 in
set_option maxRecDepth 100000 in
theorem s_X0_become (l : Launch) (g : bwG) (ah ah_settings ah_eyes ah_favours ah_numbers ah_pauses ap0 ap0_settings ap0_eyes ap0_favours ap0_numbers ap0_pauses : Nat) (vh_bows : Int32) (vh_given : Int32) (vh_taken : Int32) (vh_settings : Nat → Int32) (vh_eyes : Nat → Int32) (vh_favours : Nat → Int32) (vh_numbers : Nat → Int32) (vh_pauses : Nat → Int32) (vp0_bows : Int32) (vp0_given : Int32) (vp0_taken : Int32) (vp0_settings : Nat → Int32) (vp0_eyes : Nat → Int32) (vp0_favours : Nat → Int32) (vp0_numbers : Nat → Int32) (vp0_pauses : Nat → Int32)  (res : (Int32) × (Int32) × (Int32) × (Nat → Int32) × (Nat → Int32) × (Nat → Int32) × (Nat → Int32) × (Nat → Int32)) (hf : f_X0_become vh_bows vh_given vh_taken vh_settings vh_eyes vh_favours vh_numbers vh_pauses vp0_bows vp0_given vp0_taken vp0_settings vp0_eyes vp0_favours vp0_numbers vp0_pauses  = some res) : bwS l g yX0_become cX0_become 2 none ({ frames := 1, cells := 0, slots := 0, locals := 22 } : Room) [.ref ah, .ref ap0] ([(ah, .inr (0, [.ref ah_settings, .ref ah_eyes, .ref ah_favours, .ref ah_numbers, .ref ah_pauses, .int vh_bows, .int vh_given, .int vh_taken])), (ah_settings, .inl (g.2.1, 3, .inl vh_settings)), (ah_eyes, .inl (g.2.1, 6, .inl vh_eyes)), (ah_favours, .inl (g.2.1, 36, .inl vh_favours)), (ah_numbers, .inl (g.2.1, 24, .inl vh_numbers)), (ah_pauses, .inl (g.2.1, 24, .inl vh_pauses)), (ap0, .inr (0, [.ref ap0_settings, .ref ap0_eyes, .ref ap0_favours, .ref ap0_numbers, .ref ap0_pauses, .int vp0_bows, .int vp0_given, .int vp0_taken])), (ap0_settings, .inl (g.2.1, 3, .inl vp0_settings)), (ap0_eyes, .inl (g.2.1, 6, .inl vp0_eyes)), (ap0_favours, .inl (g.2.1, 36, .inl vp0_favours)), (ap0_numbers, .inl (g.2.1, 24, .inl vp0_numbers)), (ap0_pauses, .inl (g.2.1, 24, .inl vp0_pauses))]) (fun r w => r = none ∧ w = [(ah, .inr (0, [.ref ah_settings, .ref ah_eyes, .ref ah_favours, .ref ah_numbers, .ref ah_pauses, .int res.1, .int res.2.1, .int res.2.2.1])), (ah_settings, .inl (g.2.1, 3, .inl res.2.2.2.1)), (ah_eyes, .inl (g.2.1, 6, .inl res.2.2.2.2.1)), (ah_favours, .inl (g.2.1, 36, .inl res.2.2.2.2.2.1)), (ah_numbers, .inl (g.2.1, 24, .inl res.2.2.2.2.2.2.1)), (ah_pauses, .inl (g.2.1, 24, .inl res.2.2.2.2.2.2.2)), (ap0, .inr (0, [.ref ap0_settings, .ref ap0_eyes, .ref ap0_favours, .ref ap0_numbers, .ref ap0_pauses, .int vp0_bows, .int vp0_given, .int vp0_taken])), (ap0_settings, .inl (g.2.1, 3, .inl vp0_settings)), (ap0_eyes, .inl (g.2.1, 6, .inl vp0_eyes)), (ap0_favours, .inl (g.2.1, 36, .inl vp0_favours)), (ap0_numbers, .inl (g.2.1, 24, .inl vp0_numbers)), (ap0_pauses, .inl (g.2.1, 24, .inl vp0_pauses))]) := by
  refine bwS_of (by decide) (Nat.le_of_ble_eq_true rfl) ?_
  unfold f_X0_become at hf
  show bwR l g cX0_become 2 RX0 "become" none ({ frames := 1, cells := 0, slots := 0, locals := 22 } : Room) bwT (bwZ g (fun r w => r = none ∧ w = [(ah, .inr (0, [.ref ah_settings, .ref ah_eyes, .ref ah_favours, .ref ah_numbers, .ref ah_pauses, .int res.1, .int res.2.1, .int res.2.2.1])), (ah_settings, .inl (g.2.1, 3, .inl res.2.2.2.1)), (ah_eyes, .inl (g.2.1, 6, .inl res.2.2.2.2.1)), (ah_favours, .inl (g.2.1, 36, .inl res.2.2.2.2.2.1)), (ah_numbers, .inl (g.2.1, 24, .inl res.2.2.2.2.2.2.1)), (ah_pauses, .inl (g.2.1, 24, .inl res.2.2.2.2.2.2.2)), (ap0, .inr (0, [.ref ap0_settings, .ref ap0_eyes, .ref ap0_favours, .ref ap0_numbers, .ref ap0_pauses, .int vp0_bows, .int vp0_given, .int vp0_taken])), (ap0_settings, .inl (g.2.1, 3, .inl vp0_settings)), (ap0_eyes, .inl (g.2.1, 6, .inl vp0_eyes)), (ap0_favours, .inl (g.2.1, 36, .inl vp0_favours)), (ap0_numbers, .inl (g.2.1, 24, .inl vp0_numbers)), (ap0_pauses, .inl (g.2.1, 24, .inl vp0_pauses))]) 0 0) 0 [(0, .ref ah), (1, .ref ap0)] [] ([(ah, .inr (0, [.ref ah_settings, .ref ah_eyes, .ref ah_favours, .ref ah_numbers, .ref ah_pauses, .int vh_bows, .int vh_given, .int vh_taken])), (ah_settings, .inl (g.2.1, 3, .inl vh_settings)), (ah_eyes, .inl (g.2.1, 6, .inl vh_eyes)), (ah_favours, .inl (g.2.1, 36, .inl vh_favours)), (ah_numbers, .inl (g.2.1, 24, .inl vh_numbers)), (ah_pauses, .inl (g.2.1, 24, .inl vh_pauses)), (ap0, .inr (0, [.ref ap0_settings, .ref ap0_eyes, .ref ap0_favours, .ref ap0_numbers, .ref ap0_pauses, .int vp0_bows, .int vp0_given, .int vp0_taken])), (ap0_settings, .inl (g.2.1, 3, .inl vp0_settings)), (ap0_eyes, .inl (g.2.1, 6, .inl vp0_eyes)), (ap0_favours, .inl (g.2.1, 36, .inl vp0_favours)), (ap0_numbers, .inl (g.2.1, 24, .inl vp0_numbers)), (ap0_pauses, .inl (g.2.1, 24, .inl vp0_pauses))]) 0 0
  refine bw_aload_n 1 dX0_become_0 rfl rfl ?_
  refine bw_gf bkX0 6 0 (by decide) fl_X0_9 rfl rfl dX0_become_1 ?_
  refine bw_aload_n 0 dX0_become_4 rfl rfl ?_
  refine bw_gf bkX0 0 0 (by decide) fl_X0_9 rfl rfl dX0_become_5 ?_
  obtain ⟨q_6, hc_6, hf⟩ := bw_bind hf
  refine bw_callSN "BowSpeeches" [.ref ap0_settings, .ref ah_settings] [] [(ah, .inr (0, [.ref ah_settings, .ref ah_eyes, .ref ah_favours, .ref ah_numbers, .ref ah_pauses, .int vh_bows, .int vh_given, .int vh_taken])), (ah_eyes, .inl (g.2.1, 6, .inl vh_eyes)), (ah_favours, .inl (g.2.1, 36, .inl vh_favours)), (ah_numbers, .inl (g.2.1, 24, .inl vh_numbers)), (ah_pauses, .inl (g.2.1, 24, .inl vh_pauses)), (ap0, .inr (0, [.ref ap0_settings, .ref ap0_eyes, .ref ap0_favours, .ref ap0_numbers, .ref ap0_pauses, .int vp0_bows, .int vp0_given, .int vp0_taken])), (ap0_eyes, .inl (g.2.1, 6, .inl vp0_eyes)), (ap0_favours, .inl (g.2.1, 36, .inl vp0_favours)), (ap0_numbers, .inl (g.2.1, 24, .inl vp0_numbers)), (ap0_pauses, .inl (g.2.1, 24, .inl vp0_pauses))] (s_X4_copyRow l g ap0_settings ah_settings 3 3 vp0_settings vh_settings  _ hc_6) rfl co_X4_copyRow ini_X4 mn_X0_37 st_X4_copyRow ar_X4_copyRow ⟨Nat.le_of_ble_eq_true rfl, Nat.le_of_ble_eq_true rfl⟩ ⟨Nat.le_of_ble_eq_true rfl, Nat.le_of_ble_eq_true rfl⟩ (bw_pick1 12 [7, 1, 0, 2, 3, 4, 5, 6, 8, 9, 10, 11] rfl rfl (by decide)) (Nat.le_of_ble_eq_true rfl) dX0_become_8 (fun r w1 hq => ?_)
  obtain ⟨rfl, rfl⟩ := hq
  refine bw_perm (ws1 := [(ah, .inr (0, [.ref ah_settings, .ref ah_eyes, .ref ah_favours, .ref ah_numbers, .ref ah_pauses, .int vh_bows, .int vh_given, .int vh_taken])), (ah_settings, .inl (g.2.1, 3, .inl q_6)), (ah_eyes, .inl (g.2.1, 6, .inl vh_eyes)), (ah_favours, .inl (g.2.1, 36, .inl vh_favours)), (ah_numbers, .inl (g.2.1, 24, .inl vh_numbers)), (ah_pauses, .inl (g.2.1, 24, .inl vh_pauses)), (ap0, .inr (0, [.ref ap0_settings, .ref ap0_eyes, .ref ap0_favours, .ref ap0_numbers, .ref ap0_pauses, .int vp0_bows, .int vp0_given, .int vp0_taken])), (ap0_settings, .inl (g.2.1, 3, .inl vp0_settings)), (ap0_eyes, .inl (g.2.1, 6, .inl vp0_eyes)), (ap0_favours, .inl (g.2.1, 36, .inl vp0_favours)), (ap0_numbers, .inl (g.2.1, 24, .inl vp0_numbers)), (ap0_pauses, .inl (g.2.1, 24, .inl vp0_pauses))]) (bw_pick1 12 [0, 11, 1, 2, 3, 4, 5, 10, 6, 7, 8, 9] rfl rfl (by decide)) ?_
  refine bw_st (st1 := []) rfl ?_
  refine bw_aload_n 1 dX0_become_11 rfl rfl ?_
  refine bw_gf bkX0 6 1 (by decide) fl_X0_15 rfl rfl dX0_become_12 ?_
  refine bw_aload_n 0 dX0_become_15 rfl rfl ?_
  refine bw_gf bkX0 0 1 (by decide) fl_X0_15 rfl rfl dX0_become_16 ?_
  obtain ⟨q_7, hc_7, hf⟩ := bw_bind hf
  refine bw_callSN "BowSpeeches" [.ref ap0_eyes, .ref ah_eyes] [] [(ah, .inr (0, [.ref ah_settings, .ref ah_eyes, .ref ah_favours, .ref ah_numbers, .ref ah_pauses, .int vh_bows, .int vh_given, .int vh_taken])), (ah_settings, .inl (g.2.1, 3, .inl q_6)), (ah_favours, .inl (g.2.1, 36, .inl vh_favours)), (ah_numbers, .inl (g.2.1, 24, .inl vh_numbers)), (ah_pauses, .inl (g.2.1, 24, .inl vh_pauses)), (ap0, .inr (0, [.ref ap0_settings, .ref ap0_eyes, .ref ap0_favours, .ref ap0_numbers, .ref ap0_pauses, .int vp0_bows, .int vp0_given, .int vp0_taken])), (ap0_settings, .inl (g.2.1, 3, .inl vp0_settings)), (ap0_favours, .inl (g.2.1, 36, .inl vp0_favours)), (ap0_numbers, .inl (g.2.1, 24, .inl vp0_numbers)), (ap0_pauses, .inl (g.2.1, 24, .inl vp0_pauses))] (s_X4_copyRow l g ap0_eyes ah_eyes 6 6 vp0_eyes vh_eyes  _ hc_7) rfl co_X4_copyRow ini_X4 mn_X0_37 st_X4_copyRow ar_X4_copyRow ⟨Nat.le_of_ble_eq_true rfl, Nat.le_of_ble_eq_true rfl⟩ ⟨Nat.le_of_ble_eq_true rfl, Nat.le_of_ble_eq_true rfl⟩ (bw_pick1 12 [8, 2, 0, 1, 3, 4, 5, 6, 7, 9, 10, 11] rfl rfl (by decide)) (Nat.le_of_ble_eq_true rfl) dX0_become_19 (fun r w1 hq => ?_)
  obtain ⟨rfl, rfl⟩ := hq
  refine bw_perm (ws1 := [(ah, .inr (0, [.ref ah_settings, .ref ah_eyes, .ref ah_favours, .ref ah_numbers, .ref ah_pauses, .int vh_bows, .int vh_given, .int vh_taken])), (ah_settings, .inl (g.2.1, 3, .inl q_6)), (ah_eyes, .inl (g.2.1, 6, .inl q_7)), (ah_favours, .inl (g.2.1, 36, .inl vh_favours)), (ah_numbers, .inl (g.2.1, 24, .inl vh_numbers)), (ah_pauses, .inl (g.2.1, 24, .inl vh_pauses)), (ap0, .inr (0, [.ref ap0_settings, .ref ap0_eyes, .ref ap0_favours, .ref ap0_numbers, .ref ap0_pauses, .int vp0_bows, .int vp0_given, .int vp0_taken])), (ap0_settings, .inl (g.2.1, 3, .inl vp0_settings)), (ap0_eyes, .inl (g.2.1, 6, .inl vp0_eyes)), (ap0_favours, .inl (g.2.1, 36, .inl vp0_favours)), (ap0_numbers, .inl (g.2.1, 24, .inl vp0_numbers)), (ap0_pauses, .inl (g.2.1, 24, .inl vp0_pauses))]) (bw_pick1 12 [0, 1, 11, 2, 3, 4, 5, 6, 10, 7, 8, 9] rfl rfl (by decide)) ?_
  refine bw_st (st1 := []) rfl ?_
  refine bw_aload_n 1 dX0_become_22 rfl rfl ?_
  refine bw_gf bkX0 6 2 (by decide) fl_X0_18 rfl rfl dX0_become_23 ?_
  refine bw_aload_n 0 dX0_become_26 rfl rfl ?_
  refine bw_gf bkX0 0 2 (by decide) fl_X0_18 rfl rfl dX0_become_27 ?_
  obtain ⟨q_8, hc_8, hf⟩ := bw_bind hf
  refine bw_callSN "BowSpeeches" [.ref ap0_favours, .ref ah_favours] [] [(ah, .inr (0, [.ref ah_settings, .ref ah_eyes, .ref ah_favours, .ref ah_numbers, .ref ah_pauses, .int vh_bows, .int vh_given, .int vh_taken])), (ah_settings, .inl (g.2.1, 3, .inl q_6)), (ah_eyes, .inl (g.2.1, 6, .inl q_7)), (ah_numbers, .inl (g.2.1, 24, .inl vh_numbers)), (ah_pauses, .inl (g.2.1, 24, .inl vh_pauses)), (ap0, .inr (0, [.ref ap0_settings, .ref ap0_eyes, .ref ap0_favours, .ref ap0_numbers, .ref ap0_pauses, .int vp0_bows, .int vp0_given, .int vp0_taken])), (ap0_settings, .inl (g.2.1, 3, .inl vp0_settings)), (ap0_eyes, .inl (g.2.1, 6, .inl vp0_eyes)), (ap0_numbers, .inl (g.2.1, 24, .inl vp0_numbers)), (ap0_pauses, .inl (g.2.1, 24, .inl vp0_pauses))] (s_X4_copyRow l g ap0_favours ah_favours 36 36 vp0_favours vh_favours  _ hc_8) rfl co_X4_copyRow ini_X4 mn_X0_37 st_X4_copyRow ar_X4_copyRow ⟨Nat.le_of_ble_eq_true rfl, Nat.le_of_ble_eq_true rfl⟩ ⟨Nat.le_of_ble_eq_true rfl, Nat.le_of_ble_eq_true rfl⟩ (bw_pick1 12 [9, 3, 0, 1, 2, 4, 5, 6, 7, 8, 10, 11] rfl rfl (by decide)) (Nat.le_of_ble_eq_true rfl) dX0_become_30 (fun r w1 hq => ?_)
  obtain ⟨rfl, rfl⟩ := hq
  refine bw_perm (ws1 := [(ah, .inr (0, [.ref ah_settings, .ref ah_eyes, .ref ah_favours, .ref ah_numbers, .ref ah_pauses, .int vh_bows, .int vh_given, .int vh_taken])), (ah_settings, .inl (g.2.1, 3, .inl q_6)), (ah_eyes, .inl (g.2.1, 6, .inl q_7)), (ah_favours, .inl (g.2.1, 36, .inl q_8)), (ah_numbers, .inl (g.2.1, 24, .inl vh_numbers)), (ah_pauses, .inl (g.2.1, 24, .inl vh_pauses)), (ap0, .inr (0, [.ref ap0_settings, .ref ap0_eyes, .ref ap0_favours, .ref ap0_numbers, .ref ap0_pauses, .int vp0_bows, .int vp0_given, .int vp0_taken])), (ap0_settings, .inl (g.2.1, 3, .inl vp0_settings)), (ap0_eyes, .inl (g.2.1, 6, .inl vp0_eyes)), (ap0_favours, .inl (g.2.1, 36, .inl vp0_favours)), (ap0_numbers, .inl (g.2.1, 24, .inl vp0_numbers)), (ap0_pauses, .inl (g.2.1, 24, .inl vp0_pauses))]) (bw_pick1 12 [0, 1, 2, 11, 3, 4, 5, 6, 7, 10, 8, 9] rfl rfl (by decide)) ?_
  refine bw_st (st1 := []) rfl ?_
  refine bw_aload_n 1 dX0_become_33 rfl rfl ?_
  refine bw_gf bkX0 6 3 (by decide) fl_X0_21 rfl rfl dX0_become_34 ?_
  refine bw_aload_n 0 dX0_become_37 rfl rfl ?_
  refine bw_gf bkX0 0 3 (by decide) fl_X0_21 rfl rfl dX0_become_38 ?_
  obtain ⟨q_9, hc_9, hf⟩ := bw_bind hf
  refine bw_callSN "BowSpeeches" [.ref ap0_numbers, .ref ah_numbers] [] [(ah, .inr (0, [.ref ah_settings, .ref ah_eyes, .ref ah_favours, .ref ah_numbers, .ref ah_pauses, .int vh_bows, .int vh_given, .int vh_taken])), (ah_settings, .inl (g.2.1, 3, .inl q_6)), (ah_eyes, .inl (g.2.1, 6, .inl q_7)), (ah_favours, .inl (g.2.1, 36, .inl q_8)), (ah_pauses, .inl (g.2.1, 24, .inl vh_pauses)), (ap0, .inr (0, [.ref ap0_settings, .ref ap0_eyes, .ref ap0_favours, .ref ap0_numbers, .ref ap0_pauses, .int vp0_bows, .int vp0_given, .int vp0_taken])), (ap0_settings, .inl (g.2.1, 3, .inl vp0_settings)), (ap0_eyes, .inl (g.2.1, 6, .inl vp0_eyes)), (ap0_favours, .inl (g.2.1, 36, .inl vp0_favours)), (ap0_pauses, .inl (g.2.1, 24, .inl vp0_pauses))] (s_X4_copyRow l g ap0_numbers ah_numbers 24 24 vp0_numbers vh_numbers  _ hc_9) rfl co_X4_copyRow ini_X4 mn_X0_37 st_X4_copyRow ar_X4_copyRow ⟨Nat.le_of_ble_eq_true rfl, Nat.le_of_ble_eq_true rfl⟩ ⟨Nat.le_of_ble_eq_true rfl, Nat.le_of_ble_eq_true rfl⟩ (bw_pick1 12 [10, 4, 0, 1, 2, 3, 5, 6, 7, 8, 9, 11] rfl rfl (by decide)) (Nat.le_of_ble_eq_true rfl) dX0_become_41 (fun r w1 hq => ?_)
  obtain ⟨rfl, rfl⟩ := hq
  refine bw_perm (ws1 := [(ah, .inr (0, [.ref ah_settings, .ref ah_eyes, .ref ah_favours, .ref ah_numbers, .ref ah_pauses, .int vh_bows, .int vh_given, .int vh_taken])), (ah_settings, .inl (g.2.1, 3, .inl q_6)), (ah_eyes, .inl (g.2.1, 6, .inl q_7)), (ah_favours, .inl (g.2.1, 36, .inl q_8)), (ah_numbers, .inl (g.2.1, 24, .inl q_9)), (ah_pauses, .inl (g.2.1, 24, .inl vh_pauses)), (ap0, .inr (0, [.ref ap0_settings, .ref ap0_eyes, .ref ap0_favours, .ref ap0_numbers, .ref ap0_pauses, .int vp0_bows, .int vp0_given, .int vp0_taken])), (ap0_settings, .inl (g.2.1, 3, .inl vp0_settings)), (ap0_eyes, .inl (g.2.1, 6, .inl vp0_eyes)), (ap0_favours, .inl (g.2.1, 36, .inl vp0_favours)), (ap0_numbers, .inl (g.2.1, 24, .inl vp0_numbers)), (ap0_pauses, .inl (g.2.1, 24, .inl vp0_pauses))]) (bw_pick1 12 [0, 1, 2, 3, 11, 4, 5, 6, 7, 8, 10, 9] rfl rfl (by decide)) ?_
  refine bw_st (st1 := []) rfl ?_
  refine bw_aload_n 1 dX0_become_44 rfl rfl ?_
  refine bw_gf bkX0 6 4 (by decide) fl_X0_24 rfl rfl dX0_become_45 ?_
  refine bw_aload_n 0 dX0_become_48 rfl rfl ?_
  refine bw_gf bkX0 0 4 (by decide) fl_X0_24 rfl rfl dX0_become_49 ?_
  obtain ⟨q_10, hc_10, hf⟩ := bw_bind hf
  refine bw_callSN "BowSpeeches" [.ref ap0_pauses, .ref ah_pauses] [] [(ah, .inr (0, [.ref ah_settings, .ref ah_eyes, .ref ah_favours, .ref ah_numbers, .ref ah_pauses, .int vh_bows, .int vh_given, .int vh_taken])), (ah_settings, .inl (g.2.1, 3, .inl q_6)), (ah_eyes, .inl (g.2.1, 6, .inl q_7)), (ah_favours, .inl (g.2.1, 36, .inl q_8)), (ah_numbers, .inl (g.2.1, 24, .inl q_9)), (ap0, .inr (0, [.ref ap0_settings, .ref ap0_eyes, .ref ap0_favours, .ref ap0_numbers, .ref ap0_pauses, .int vp0_bows, .int vp0_given, .int vp0_taken])), (ap0_settings, .inl (g.2.1, 3, .inl vp0_settings)), (ap0_eyes, .inl (g.2.1, 6, .inl vp0_eyes)), (ap0_favours, .inl (g.2.1, 36, .inl vp0_favours)), (ap0_numbers, .inl (g.2.1, 24, .inl vp0_numbers))] (s_X4_copyRow l g ap0_pauses ah_pauses 24 24 vp0_pauses vh_pauses  _ hc_10) rfl co_X4_copyRow ini_X4 mn_X0_37 st_X4_copyRow ar_X4_copyRow ⟨Nat.le_of_ble_eq_true rfl, Nat.le_of_ble_eq_true rfl⟩ ⟨Nat.le_of_ble_eq_true rfl, Nat.le_of_ble_eq_true rfl⟩ (bw_pick1 12 [11, 5, 0, 1, 2, 3, 4, 6, 7, 8, 9, 10] rfl rfl (by decide)) (Nat.le_of_ble_eq_true rfl) dX0_become_52 (fun r w1 hq => ?_)
  obtain ⟨rfl, rfl⟩ := hq
  refine bw_perm (ws1 := [(ah, .inr (0, [.ref ah_settings, .ref ah_eyes, .ref ah_favours, .ref ah_numbers, .ref ah_pauses, .int vh_bows, .int vh_given, .int vh_taken])), (ah_settings, .inl (g.2.1, 3, .inl q_6)), (ah_eyes, .inl (g.2.1, 6, .inl q_7)), (ah_favours, .inl (g.2.1, 36, .inl q_8)), (ah_numbers, .inl (g.2.1, 24, .inl q_9)), (ah_pauses, .inl (g.2.1, 24, .inl q_10)), (ap0, .inr (0, [.ref ap0_settings, .ref ap0_eyes, .ref ap0_favours, .ref ap0_numbers, .ref ap0_pauses, .int vp0_bows, .int vp0_given, .int vp0_taken])), (ap0_settings, .inl (g.2.1, 3, .inl vp0_settings)), (ap0_eyes, .inl (g.2.1, 6, .inl vp0_eyes)), (ap0_favours, .inl (g.2.1, 36, .inl vp0_favours)), (ap0_numbers, .inl (g.2.1, 24, .inl vp0_numbers)), (ap0_pauses, .inl (g.2.1, 24, .inl vp0_pauses))]) (bw_pick1 12 [0, 1, 2, 3, 4, 11, 5, 6, 7, 8, 9, 10] rfl rfl (by decide)) ?_
  refine bw_st (st1 := []) rfl ?_
  refine bw_aload_n 0 dX0_become_55 rfl rfl ?_
  refine bw_aload_n 1 dX0_become_56 rfl rfl ?_
  refine bw_gf bkX0 6 5 (by decide) fl_X0_27 rfl rfl dX0_become_57 ?_
  refine bw_pf bkX0 0 5 ([(ah, .inr (0, [.ref ah_settings, .ref ah_eyes, .ref ah_favours, .ref ah_numbers, .ref ah_pauses, .int vp0_bows, .int vh_given, .int vh_taken])), (ah_settings, .inl (g.2.1, 3, .inl q_6)), (ah_eyes, .inl (g.2.1, 6, .inl q_7)), (ah_favours, .inl (g.2.1, 36, .inl q_8)), (ah_numbers, .inl (g.2.1, 24, .inl q_9)), (ah_pauses, .inl (g.2.1, 24, .inl q_10)), (ap0, .inr (0, [.ref ap0_settings, .ref ap0_eyes, .ref ap0_favours, .ref ap0_numbers, .ref ap0_pauses, .int vp0_bows, .int vp0_given, .int vp0_taken])), (ap0_settings, .inl (g.2.1, 3, .inl vp0_settings)), (ap0_eyes, .inl (g.2.1, 6, .inl vp0_eyes)), (ap0_favours, .inl (g.2.1, 36, .inl vp0_favours)), (ap0_numbers, .inl (g.2.1, 24, .inl vp0_numbers)), (ap0_pauses, .inl (g.2.1, 24, .inl vp0_pauses))]) (by decide) fl_X0_27 rfl rfl rfl rfl rfl (Nat.le_of_ble_eq_true rfl) rfl dX0_become_60 ?_
  refine bw_aload_n 0 dX0_become_63 rfl rfl ?_
  refine bw_aload_n 1 dX0_become_64 rfl rfl ?_
  refine bw_gf bkX0 6 6 (by decide) fl_X0_31 rfl rfl dX0_become_65 ?_
  refine bw_pf bkX0 0 6 ([(ah, .inr (0, [.ref ah_settings, .ref ah_eyes, .ref ah_favours, .ref ah_numbers, .ref ah_pauses, .int vp0_bows, .int vp0_given, .int vh_taken])), (ah_settings, .inl (g.2.1, 3, .inl q_6)), (ah_eyes, .inl (g.2.1, 6, .inl q_7)), (ah_favours, .inl (g.2.1, 36, .inl q_8)), (ah_numbers, .inl (g.2.1, 24, .inl q_9)), (ah_pauses, .inl (g.2.1, 24, .inl q_10)), (ap0, .inr (0, [.ref ap0_settings, .ref ap0_eyes, .ref ap0_favours, .ref ap0_numbers, .ref ap0_pauses, .int vp0_bows, .int vp0_given, .int vp0_taken])), (ap0_settings, .inl (g.2.1, 3, .inl vp0_settings)), (ap0_eyes, .inl (g.2.1, 6, .inl vp0_eyes)), (ap0_favours, .inl (g.2.1, 36, .inl vp0_favours)), (ap0_numbers, .inl (g.2.1, 24, .inl vp0_numbers)), (ap0_pauses, .inl (g.2.1, 24, .inl vp0_pauses))]) (by decide) fl_X0_31 rfl rfl rfl rfl rfl (Nat.le_of_ble_eq_true rfl) rfl dX0_become_68 ?_
  refine bw_aload_n 0 dX0_become_71 rfl rfl ?_
  refine bw_aload_n 1 dX0_become_72 rfl rfl ?_
  refine bw_gf bkX0 6 7 (by decide) fl_X0_34 rfl rfl dX0_become_73 ?_
  refine bw_pf bkX0 0 7 ([(ah, .inr (0, [.ref ah_settings, .ref ah_eyes, .ref ah_favours, .ref ah_numbers, .ref ah_pauses, .int vp0_bows, .int vp0_given, .int vp0_taken])), (ah_settings, .inl (g.2.1, 3, .inl q_6)), (ah_eyes, .inl (g.2.1, 6, .inl q_7)), (ah_favours, .inl (g.2.1, 36, .inl q_8)), (ah_numbers, .inl (g.2.1, 24, .inl q_9)), (ah_pauses, .inl (g.2.1, 24, .inl q_10)), (ap0, .inr (0, [.ref ap0_settings, .ref ap0_eyes, .ref ap0_favours, .ref ap0_numbers, .ref ap0_pauses, .int vp0_bows, .int vp0_given, .int vp0_taken])), (ap0_settings, .inl (g.2.1, 3, .inl vp0_settings)), (ap0_eyes, .inl (g.2.1, 6, .inl vp0_eyes)), (ap0_favours, .inl (g.2.1, 36, .inl vp0_favours)), (ap0_numbers, .inl (g.2.1, 24, .inl vp0_numbers)), (ap0_pauses, .inl (g.2.1, 24, .inl vp0_pauses))]) (by decide) fl_X0_34 rfl rfl rfl rfl rfl (Nat.le_of_ble_eq_true rfl) rfl dX0_become_76 ?_
  cases Option.some.inj hf
  exact bw_vret rfl (Nat.le_of_ble_eq_true rfl) (Nat.le_of_ble_eq_true rfl) dX0_become_79 ⟨rfl, rfl⟩
theorem ar_X0_addBow : yX0_addBow.cls ≠ "java/lang/invoke/MethodHandle" ∧ yX0_addBow.cls ≠ "java/lang/invoke/VarHandle" ∧ (parseMethodDescriptor yX0_addBow.desc).map (fun d => d.parameters.length) = some 2 := ⟨by decide, by decide, by decide +kernel⟩
def f_X0_addBow (vh_bows : Int32) (vh_numbers : Nat → Int32) (vh_pauses : Nat → Int32) (p0 : Int32) (p1 : Int32) : Option ((Int32) × (Nat → Int32) × (Nat → Int32)) := (if vh_bows < 0 then some (vh_bows, vh_numbers, vh_pauses) else (if 24 ≤ vh_bows then some (vh_bows, vh_numbers, vh_pauses) else (if bw_in vh_bows 24 then (if bw_in vh_bows 24 then some ((vh_bows + 1), (upd vh_numbers (Int32.toNatClampNeg vh_bows) p0), (upd vh_pauses (Int32.toNatClampNeg vh_bows) p1)) else none) else none)))
set_option maxHeartbeats 4000000 in
set_option maxRecDepth 100000 in
theorem s_X0_addBow (l : Launch) (g : bwG) (ah ah_settings ah_eyes ah_favours ah_numbers ah_pauses : Nat) (vh_bows : Int32) (vh_given : Int32) (vh_taken : Int32) (vh_numbers : Nat → Int32) (vh_pauses : Nat → Int32) (p0 : Int32) (p1 : Int32) (res : (Int32) × (Nat → Int32) × (Nat → Int32)) (hf : f_X0_addBow vh_bows vh_numbers vh_pauses p0 p1 = some res) : bwS l g yX0_addBow cX0_addBow 3 none ({ frames := 0, cells := 0, slots := 0, locals := 0 } : Room) [.ref ah, .int p0, .int p1] ([(ah, .inr (0, [.ref ah_settings, .ref ah_eyes, .ref ah_favours, .ref ah_numbers, .ref ah_pauses, .int vh_bows, .int vh_given, .int vh_taken])), (ah_numbers, .inl (g.2.1, 24, .inl vh_numbers)), (ah_pauses, .inl (g.2.1, 24, .inl vh_pauses))]) (fun r w => r = none ∧ w = [(ah, .inr (0, [.ref ah_settings, .ref ah_eyes, .ref ah_favours, .ref ah_numbers, .ref ah_pauses, .int res.1, .int vh_given, .int vh_taken])), (ah_numbers, .inl (g.2.1, 24, .inl res.2.1)), (ah_pauses, .inl (g.2.1, 24, .inl res.2.2))]) := by
  refine bwS_of (by decide) (Nat.le_of_ble_eq_true rfl) ?_
  unfold f_X0_addBow at hf
  show bwR l g cX0_addBow 3 RX0 "addBow" none ({ frames := 0, cells := 0, slots := 0, locals := 0 } : Room) bwT (bwZ g (fun r w => r = none ∧ w = [(ah, .inr (0, [.ref ah_settings, .ref ah_eyes, .ref ah_favours, .ref ah_numbers, .ref ah_pauses, .int res.1, .int vh_given, .int vh_taken])), (ah_numbers, .inl (g.2.1, 24, .inl res.2.1)), (ah_pauses, .inl (g.2.1, 24, .inl res.2.2))]) 0 0) 0 [(0, .ref ah), (1, .int p0), (2, .int p1)] [] ([(ah, .inr (0, [.ref ah_settings, .ref ah_eyes, .ref ah_favours, .ref ah_numbers, .ref ah_pauses, .int vh_bows, .int vh_given, .int vh_taken])), (ah_numbers, .inl (g.2.1, 24, .inl vh_numbers)), (ah_pauses, .inl (g.2.1, 24, .inl vh_pauses))]) 0 0
  refine bw_aload_n 0 dX0_addBow_0 rfl rfl ?_
  refine bw_gf bkX0 0 5 (by decide) fl_X0_27 rfl rfl dX0_addBow_1 ?_
  refine bw_if_lt 46 dX0_addBow_4 (by decide) (fun c_5 => ?_) (fun c_5 => ?_)
  · have hf := bw_pos c_5 hf
    cases Option.some.inj hf
    exact bw_vret rfl (Nat.le_of_ble_eq_true rfl) (Nat.le_of_ble_eq_true rfl) dX0_addBow_46 ⟨rfl, rfl⟩
  · have hf := bw_neg c_5 hf
    refine bw_aload_n 0 dX0_addBow_7 rfl rfl ?_
    refine bw_gf bkX0 0 5 (by decide) fl_X0_27 rfl rfl dX0_addBow_8 ?_
    refine bw_bipush 24 dX0_addBow_11 (by decide) ?_
    refine bw_icmp_ge 46 dX0_addBow_13 (by decide) (fun c_6 => ?_) (fun c_6 => ?_)
    · have hf := bw_pos c_6 hf
      cases Option.some.inj hf
      exact bw_vret rfl (Nat.le_of_ble_eq_true rfl) (Nat.le_of_ble_eq_true rfl) dX0_addBow_46 ⟨rfl, rfl⟩
    · have hf := bw_neg c_6 hf
      refine bw_aload_n 0 dX0_addBow_16 rfl rfl ?_
      refine bw_gf bkX0 0 3 (by decide) fl_X0_21 rfl rfl dX0_addBow_17 ?_
      refine bw_aload_n 0 dX0_addBow_20 rfl rfl ?_
      refine bw_gf bkX0 0 5 (by decide) fl_X0_27 rfl rfl dX0_addBow_21 ?_
      refine bw_iload_n 1 dX0_addBow_24 rfl rfl ?_
      obtain ⟨h_7, hf⟩ := bw_chk hf
      refine bw_iast 1 ([(ah, .inr (0, [.ref ah_settings, .ref ah_eyes, .ref ah_favours, .ref ah_numbers, .ref ah_pauses, .int vh_bows, .int vh_given, .int vh_taken])), (ah_numbers, .inl (g.2.1, 24, .inl ((upd vh_numbers (Int32.toNatClampNeg vh_bows) p0)))), (ah_pauses, .inl (g.2.1, 24, .inl vh_pauses))]) rfl h_7 rfl dX0_addBow_25 ?_
      refine bw_aload_n 0 dX0_addBow_26 rfl rfl ?_
      refine bw_gf bkX0 0 4 (by decide) fl_X0_24 rfl rfl dX0_addBow_27 ?_
      refine bw_aload_n 0 dX0_addBow_30 rfl rfl ?_
      refine bw_gf bkX0 0 5 (by decide) fl_X0_27 rfl rfl dX0_addBow_31 ?_
      refine bw_iload_n 2 dX0_addBow_34 rfl rfl ?_
      obtain ⟨h_8, hf⟩ := bw_chk hf
      refine bw_iast 2 ([(ah, .inr (0, [.ref ah_settings, .ref ah_eyes, .ref ah_favours, .ref ah_numbers, .ref ah_pauses, .int vh_bows, .int vh_given, .int vh_taken])), (ah_numbers, .inl (g.2.1, 24, .inl ((upd vh_numbers (Int32.toNatClampNeg vh_bows) p0)))), (ah_pauses, .inl (g.2.1, 24, .inl ((upd vh_pauses (Int32.toNatClampNeg vh_bows) p1))))]) rfl h_8 rfl dX0_addBow_35 ?_
      refine bw_aload_n 0 dX0_addBow_36 rfl rfl ?_
      refine bw_dup dX0_addBow_37 rfl ?_
      refine bw_gf bkX0 0 5 (by decide) fl_X0_27 rfl rfl dX0_addBow_38 ?_
      refine bw_iconst 1 dX0_addBow_41 (by decide) ?_
      refine bw_iadd dX0_addBow_42 ?_
      refine bw_pf bkX0 0 5 ([(ah, .inr (0, [.ref ah_settings, .ref ah_eyes, .ref ah_favours, .ref ah_numbers, .ref ah_pauses, .int ((vh_bows + 1)), .int vh_given, .int vh_taken])), (ah_numbers, .inl (g.2.1, 24, .inl ((upd vh_numbers (Int32.toNatClampNeg vh_bows) p0)))), (ah_pauses, .inl (g.2.1, 24, .inl ((upd vh_pauses (Int32.toNatClampNeg vh_bows) p1))))]) (by decide) fl_X0_27 rfl rfl rfl rfl rfl (Nat.le_of_ble_eq_true rfl) rfl dX0_addBow_43 ?_
      cases Option.some.inj hf
      exact bw_vret rfl (Nat.le_of_ble_eq_true rfl) (Nat.le_of_ble_eq_true rfl) dX0_addBow_46 ⟨rfl, rfl⟩
theorem ar_X4_at : yX4_at.cls ≠ "java/lang/invoke/MethodHandle" ∧ yX4_at.cls ≠ "java/lang/invoke/VarHandle" ∧ (parseMethodDescriptor yX4_at.desc).map (fun d => d.parameters.length) = some 2 := ⟨by decide, by decide, by decide +kernel⟩
def f_X4_at (np0 : Nat) (vp0 : Nat → Int32) (p1 : Int32) : Option (Int32) := (if p1 < 0 then some 0 else (if (Int32.ofNat np0) ≤ p1 then some 0 else (if bw_in p1 np0 then some (vp0 (Int32.toNatClampNeg p1)) else none)))
set_option maxHeartbeats 4000000 in
set_option maxRecDepth 100000 in
theorem s_X4_at (l : Launch) (g : bwG) (ap0 np0 : Nat) (vp0 : Nat → Int32) (p1 : Int32) (res : Int32) (hf : f_X4_at np0 vp0 p1 = some res) : bwS l g yX4_at cX4_at 2 (some .int) ({ frames := 0, cells := 0, slots := 0, locals := 0 } : Room) [.ref ap0, .int p1] ([(ap0, .inl (g.2.1, np0, .inl vp0))]) (fun r w => r = some (.int res) ∧ w = [(ap0, .inl (g.2.1, np0, .inl vp0))]) := by
  refine bwS_of (by decide) (Nat.le_of_ble_eq_true rfl) ?_
  unfold f_X4_at at hf
  show bwR l g cX4_at 2 RX4 "at" (some .int) ({ frames := 0, cells := 0, slots := 0, locals := 0 } : Room) bwT (bwZ g (fun r w => r = some (.int res) ∧ w = [(ap0, .inl (g.2.1, np0, .inl vp0))]) 0 0) 0 [(0, .ref ap0), (1, .int p1)] [] ([(ap0, .inl (g.2.1, np0, .inl vp0))]) 0 0
  refine bw_iload_n 1 dX4_at_0 rfl rfl ?_
  refine bw_if_lt 16 dX4_at_1 (by decide) (fun c_4 => ?_) (fun c_4 => ?_)
  · have hf := bw_pos c_4 hf
    refine bw_iconst 0 dX4_at_16 (by decide) ?_
    cases Option.some.inj hf
    exact bw_ret rfl rfl (Nat.le_of_ble_eq_true rfl) (Nat.le_of_ble_eq_true rfl) dX4_at_17 ⟨rfl, rfl⟩
  · have hf := bw_neg c_4 hf
    refine bw_iload_n 1 dX4_at_4 rfl rfl ?_
    refine bw_aload_n 0 dX4_at_5 rfl rfl ?_
    refine bw_alen 0 0 (Int32.ofNat np0) rfl rfl rfl dX4_at_6 ?_
    refine bw_icmp_ge 16 dX4_at_7 (by decide) (fun c_5 => ?_) (fun c_5 => ?_)
    · have hf := bw_pos c_5 hf
      refine bw_iconst 0 dX4_at_16 (by decide) ?_
      cases Option.some.inj hf
      exact bw_ret rfl rfl (Nat.le_of_ble_eq_true rfl) (Nat.le_of_ble_eq_true rfl) dX4_at_17 ⟨rfl, rfl⟩
    · have hf := bw_neg c_5 hf
      refine bw_aload_n 0 dX4_at_10 rfl rfl ?_
      refine bw_iload_n 1 dX4_at_11 rfl rfl ?_
      obtain ⟨h_6, hf⟩ := bw_chk hf
      refine bw_iald 0 rfl h_6 dX4_at_12 ?_
      refine bw_goto 17 dX4_at_13 (by decide) ?_
      cases Option.some.inj hf
      exact bw_ret rfl rfl (Nat.le_of_ble_eq_true rfl) (Nat.le_of_ble_eq_true rfl) dX4_at_17 ⟨rfl, rfl⟩
theorem ar_X0_bowAt : yX0_bowAt.cls ≠ "java/lang/invoke/MethodHandle" ∧ yX0_bowAt.cls ≠ "java/lang/invoke/VarHandle" ∧ (parseMethodDescriptor yX0_bowAt.desc).map (fun d => d.parameters.length) = some 1 := ⟨by decide, by decide, by decide +kernel⟩
def f_X0_bowAt (vh_numbers : Nat → Int32) (p0 : Int32) : Option (Int32) := ((f_X4_at 24 vh_numbers p0).bind fun q_2 => some q_2)
set_option maxHeartbeats 4000000 in
set_option maxRecDepth 100000 in
theorem s_X0_bowAt (l : Launch) (g : bwG) (ah ah_settings ah_eyes ah_favours ah_numbers ah_pauses : Nat) (vh_bows : Int32) (vh_given : Int32) (vh_taken : Int32) (vh_numbers : Nat → Int32) (p0 : Int32) (res : Int32) (hf : f_X0_bowAt vh_numbers p0 = some res) : bwS l g yX0_bowAt cX0_bowAt 2 (some .int) ({ frames := 1, cells := 0, slots := 0, locals := 21 } : Room) [.ref ah, .int p0] ([(ah, .inr (0, [.ref ah_settings, .ref ah_eyes, .ref ah_favours, .ref ah_numbers, .ref ah_pauses, .int vh_bows, .int vh_given, .int vh_taken])), (ah_numbers, .inl (g.2.1, 24, .inl vh_numbers))]) (fun r w => r = some (.int res) ∧ w = [(ah, .inr (0, [.ref ah_settings, .ref ah_eyes, .ref ah_favours, .ref ah_numbers, .ref ah_pauses, .int vh_bows, .int vh_given, .int vh_taken])), (ah_numbers, .inl (g.2.1, 24, .inl vh_numbers))]) := by
  refine bwS_of (by decide) (Nat.le_of_ble_eq_true rfl) ?_
  unfold f_X0_bowAt at hf
  show bwR l g cX0_bowAt 2 RX0 "bowAt" (some .int) ({ frames := 1, cells := 0, slots := 0, locals := 21 } : Room) bwT (bwZ g (fun r w => r = some (.int res) ∧ w = [(ah, .inr (0, [.ref ah_settings, .ref ah_eyes, .ref ah_favours, .ref ah_numbers, .ref ah_pauses, .int vh_bows, .int vh_given, .int vh_taken])), (ah_numbers, .inl (g.2.1, 24, .inl vh_numbers))]) 0 0) 0 [(0, .ref ah), (1, .int p0)] [] ([(ah, .inr (0, [.ref ah_settings, .ref ah_eyes, .ref ah_favours, .ref ah_numbers, .ref ah_pauses, .int vh_bows, .int vh_given, .int vh_taken])), (ah_numbers, .inl (g.2.1, 24, .inl vh_numbers))]) 0 0
  refine bw_aload_n 0 dX0_bowAt_0 rfl rfl ?_
  refine bw_gf bkX0 0 3 (by decide) fl_X0_21 rfl rfl dX0_bowAt_1 ?_
  refine bw_iload_n 1 dX0_bowAt_4 rfl rfl ?_
  obtain ⟨q_2, hc_2, hf⟩ := bw_bind hf
  refine bw_callSN "BowSpeeches" [.ref ah_numbers, .int p0] [] [(ah, .inr (0, [.ref ah_settings, .ref ah_eyes, .ref ah_favours, .ref ah_numbers, .ref ah_pauses, .int vh_bows, .int vh_given, .int vh_taken]))] (s_X4_at l g ah_numbers 24 vh_numbers p0 _ hc_2) rfl co_X4_at ini_X4 mn_X0_41 st_X4_at ar_X4_at ⟨Nat.le_of_ble_eq_true rfl, Nat.le_of_ble_eq_true rfl⟩ ⟨Nat.le_of_ble_eq_true rfl, Nat.le_of_ble_eq_true rfl⟩ (bw_pick1 2 [1, 0] rfl rfl (by decide)) (Nat.le_of_ble_eq_true rfl) dX0_bowAt_5 (fun r w1 hq => ?_)
  obtain ⟨rfl, rfl⟩ := hq
  refine bw_perm (ws1 := [(ah, .inr (0, [.ref ah_settings, .ref ah_eyes, .ref ah_favours, .ref ah_numbers, .ref ah_pauses, .int vh_bows, .int vh_given, .int vh_taken])), (ah_numbers, .inl (g.2.1, 24, .inl vh_numbers))]) (bw_pick1 2 [0, 1] rfl rfl (by decide)) ?_
  refine bw_st (st1 := [.int q_2]) rfl ?_
  cases Option.some.inj hf
  exact bw_ret rfl rfl (Nat.le_of_ble_eq_true rfl) (Nat.le_of_ble_eq_true rfl) dX0_bowAt_8 ⟨rfl, rfl⟩
theorem ar_X2_append : yX2_append.cls ≠ "java/lang/invoke/MethodHandle" ∧ yX2_append.cls ≠ "java/lang/invoke/VarHandle" ∧ (parseMethodDescriptor yX2_append.desc).map (fun d => d.parameters.length) = some 1 := ⟨by decide, by decide, by decide +kernel⟩
def f_X2_append (vh_length : Int32) (vh_characters : Nat → Int32) (p0 : Int32) : Option ((Int32) × (Nat → Int32)) := (if vh_length < 0 then some (vh_length, vh_characters) else (if 60 ≤ vh_length then some (vh_length, vh_characters) else (if bw_in vh_length 60 then some ((vh_length + 1), (upd vh_characters (Int32.toNatClampNeg vh_length) (vp_nar .char p0))) else none)))
set_option maxHeartbeats 4000000 in
set_option maxRecDepth 100000 in
theorem s_X2_append (l : Launch) (g : bwG) (ah ah_characters : Nat) (vh_length : Int32) (vh_characters : Nat → Int32) (p0 : Int32) (res : (Int32) × (Nat → Int32)) (hf : f_X2_append vh_length vh_characters p0 = some res) : bwS l g yX2_append cX2_append 2 none ({ frames := 0, cells := 0, slots := 0, locals := 0 } : Room) [.ref ah, .int p0] ([(ah, .inr (2, [.ref ah_characters, .int vh_length])), (ah_characters, .inl (g.2.2.1, 60, .inl vh_characters))]) (fun r w => r = none ∧ w = [(ah, .inr (2, [.ref ah_characters, .int res.1])), (ah_characters, .inl (g.2.2.1, 60, .inl res.2))]) := by
  refine bwS_of (by decide) (Nat.le_of_ble_eq_true rfl) ?_
  unfold f_X2_append at hf
  show bwR l g cX2_append 2 RX2 "append" none ({ frames := 0, cells := 0, slots := 0, locals := 0 } : Room) bwT (bwZ g (fun r w => r = none ∧ w = [(ah, .inr (2, [.ref ah_characters, .int res.1])), (ah_characters, .inl (g.2.2.1, 60, .inl res.2))]) 0 0) 0 [(0, .ref ah), (1, .int p0)] [] ([(ah, .inr (2, [.ref ah_characters, .int vh_length])), (ah_characters, .inl (g.2.2.1, 60, .inl vh_characters))]) 0 0
  refine bw_aload_n 0 dX2_append_0 rfl rfl ?_
  refine bw_gf bkX2 0 1 (by decide) fl_X2_15 rfl rfl dX2_append_1 ?_
  refine bw_if_lt 36 dX2_append_4 (by decide) (fun c_4 => ?_) (fun c_4 => ?_)
  · have hf := bw_pos c_4 hf
    cases Option.some.inj hf
    exact bw_vret rfl (Nat.le_of_ble_eq_true rfl) (Nat.le_of_ble_eq_true rfl) dX2_append_36 ⟨rfl, rfl⟩
  · have hf := bw_neg c_4 hf
    refine bw_aload_n 0 dX2_append_7 rfl rfl ?_
    refine bw_gf bkX2 0 1 (by decide) fl_X2_15 rfl rfl dX2_append_8 ?_
    refine bw_bipush 60 dX2_append_11 (by decide) ?_
    refine bw_icmp_ge 36 dX2_append_13 (by decide) (fun c_5 => ?_) (fun c_5 => ?_)
    · have hf := bw_pos c_5 hf
      cases Option.some.inj hf
      exact bw_vret rfl (Nat.le_of_ble_eq_true rfl) (Nat.le_of_ble_eq_true rfl) dX2_append_36 ⟨rfl, rfl⟩
    · have hf := bw_neg c_5 hf
      refine bw_aload_n 0 dX2_append_16 rfl rfl ?_
      refine bw_gf bkX2 0 0 (by decide) fl_X2_9 rfl rfl dX2_append_17 ?_
      refine bw_aload_n 0 dX2_append_20 rfl rfl ?_
      refine bw_gf bkX2 0 1 (by decide) fl_X2_15 rfl rfl dX2_append_21 ?_
      refine bw_iload_n 1 dX2_append_24 rfl rfl ?_
      obtain ⟨h_6, hf⟩ := bw_chk hf
      refine bw_cast 1 ([(ah, .inr (2, [.ref ah_characters, .int vh_length])), (ah_characters, .inl (g.2.2.1, 60, .inl ((upd vh_characters (Int32.toNatClampNeg vh_length) (vp_nar .char p0)))))]) rfl h_6 rfl dX2_append_25 ?_
      refine bw_aload_n 0 dX2_append_26 rfl rfl ?_
      refine bw_dup dX2_append_27 rfl ?_
      refine bw_gf bkX2 0 1 (by decide) fl_X2_15 rfl rfl dX2_append_28 ?_
      refine bw_iconst 1 dX2_append_31 (by decide) ?_
      refine bw_iadd dX2_append_32 ?_
      refine bw_pf bkX2 0 1 ([(ah, .inr (2, [.ref ah_characters, .int ((vh_length + 1))])), (ah_characters, .inl (g.2.2.1, 60, .inl ((upd vh_characters (Int32.toNatClampNeg vh_length) (vp_nar .char p0)))))]) (by decide) fl_X2_15 rfl rfl rfl rfl rfl (Nat.le_of_ble_eq_true rfl) rfl dX2_append_33 ?_
      cases Option.some.inj hf
      exact bw_vret rfl (Nat.le_of_ble_eq_true rfl) (Nat.le_of_ble_eq_true rfl) dX2_append_36 ⟨rfl, rfl⟩
theorem ar_X2_characterAt : yX2_characterAt.cls ≠ "java/lang/invoke/MethodHandle" ∧ yX2_characterAt.cls ≠ "java/lang/invoke/VarHandle" ∧ (parseMethodDescriptor yX2_characterAt.desc).map (fun d => d.parameters.length) = some 1 := ⟨by decide, by decide, by decide +kernel⟩
def f_X2_characterAt (vh_length : Int32) (vh_characters : Nat → Int32) (p0 : Int32) : Option (Int32) := (if p0 < 0 then some 0 else (if vh_length ≤ p0 then some 0 else (if 60 ≤ p0 then some 0 else (if bw_in p0 60 then (if bw_nc ((vh_characters (Int32.toNatClampNeg p0))) then some (vh_characters (Int32.toNatClampNeg p0)) else none) else none))))
set_option maxHeartbeats 4000000 in
set_option maxRecDepth 100000 in
theorem s_X2_characterAt (l : Launch) (g : bwG) (ah ah_characters : Nat) (vh_length : Int32) (vh_characters : Nat → Int32) (p0 : Int32) (res : Int32) (hf : f_X2_characterAt vh_length vh_characters p0 = some res) : bwS l g yX2_characterAt cX2_characterAt 2 (some .char) ({ frames := 0, cells := 0, slots := 0, locals := 0 } : Room) [.ref ah, .int p0] ([(ah, .inr (2, [.ref ah_characters, .int vh_length])), (ah_characters, .inl (g.2.2.1, 60, .inl vh_characters))]) (fun r w => r = some (.int res) ∧ w = [(ah, .inr (2, [.ref ah_characters, .int vh_length])), (ah_characters, .inl (g.2.2.1, 60, .inl vh_characters))]) := by
  refine bwS_of (by decide) (Nat.le_of_ble_eq_true rfl) ?_
  unfold f_X2_characterAt at hf
  show bwR l g cX2_characterAt 2 RX2 "characterAt" (some .char) ({ frames := 0, cells := 0, slots := 0, locals := 0 } : Room) bwT (bwZ g (fun r w => r = some (.int res) ∧ w = [(ah, .inr (2, [.ref ah_characters, .int vh_length])), (ah_characters, .inl (g.2.2.1, 60, .inl vh_characters))]) 0 0) 0 [(0, .ref ah), (1, .int p0)] [] ([(ah, .inr (2, [.ref ah_characters, .int vh_length])), (ah_characters, .inl (g.2.2.1, 60, .inl vh_characters))]) 0 0
  refine bw_iload_n 1 dX2_characterAt_0 rfl rfl ?_
  refine bw_if_lt 27 dX2_characterAt_1 (by decide) (fun c_6 => ?_) (fun c_6 => ?_)
  · have hf := bw_pos c_6 hf
    refine bw_iconst 0 dX2_characterAt_27 (by decide) ?_
    cases Option.some.inj hf
    exact bw_ret rfl rfl (Nat.le_of_ble_eq_true rfl) (Nat.le_of_ble_eq_true rfl) dX2_characterAt_28 ⟨rfl, rfl⟩
  · have hf := bw_neg c_6 hf
    refine bw_iload_n 1 dX2_characterAt_4 rfl rfl ?_
    refine bw_aload_n 0 dX2_characterAt_5 rfl rfl ?_
    refine bw_gf bkX2 0 1 (by decide) fl_X2_15 rfl rfl dX2_characterAt_6 ?_
    refine bw_icmp_ge 27 dX2_characterAt_9 (by decide) (fun c_7 => ?_) (fun c_7 => ?_)
    · have hf := bw_pos c_7 hf
      refine bw_iconst 0 dX2_characterAt_27 (by decide) ?_
      cases Option.some.inj hf
      exact bw_ret rfl rfl (Nat.le_of_ble_eq_true rfl) (Nat.le_of_ble_eq_true rfl) dX2_characterAt_28 ⟨rfl, rfl⟩
    · have hf := bw_neg c_7 hf
      refine bw_iload_n 1 dX2_characterAt_12 rfl rfl ?_
      refine bw_bipush 60 dX2_characterAt_13 (by decide) ?_
      refine bw_icmp_ge 27 dX2_characterAt_15 (by decide) (fun c_8 => ?_) (fun c_8 => ?_)
      · have hf := bw_pos c_8 hf
        refine bw_iconst 0 dX2_characterAt_27 (by decide) ?_
        cases Option.some.inj hf
        exact bw_ret rfl rfl (Nat.le_of_ble_eq_true rfl) (Nat.le_of_ble_eq_true rfl) dX2_characterAt_28 ⟨rfl, rfl⟩
      · have hf := bw_neg c_8 hf
        refine bw_aload_n 0 dX2_characterAt_18 rfl rfl ?_
        refine bw_gf bkX2 0 0 (by decide) fl_X2_9 rfl rfl dX2_characterAt_19 ?_
        refine bw_iload_n 1 dX2_characterAt_22 rfl rfl ?_
        obtain ⟨h_9, hf⟩ := bw_chk hf
        refine bw_cald 1 rfl h_9 dX2_characterAt_23 ?_
        refine bw_goto 28 dX2_characterAt_24 (by decide) ?_
        obtain ⟨h_10, hf⟩ := bw_chk hf
        cases Option.some.inj hf
        exact bw_ret rfl (bw_ncp h_10) (Nat.le_of_ble_eq_true rfl) (Nat.le_of_ble_eq_true rfl) dX2_characterAt_28 ⟨rfl, rfl⟩
theorem ar_X2_placeBehind : yX2_placeBehind.cls ≠ "java/lang/invoke/MethodHandle" ∧ yX2_placeBehind.cls ≠ "java/lang/invoke/VarHandle" ∧ (parseMethodDescriptor yX2_placeBehind.desc).map (fun d => d.parameters.length) = some 2 := ⟨by decide, by decide, by decide +kernel⟩
def f_X2_placeBehind  (p0 : Int32) (p1 : Int32) : Option (Int32) := (if p1 < 49 then (if p0 = 1 then (if p1 = 108 then some 2 else (if p1 = 114 then some 2 else some 5)) else (if p0 = 2 then (if p1 = 46 then some 3 else some 5) else (if p0 = 3 then (if p1 < 48 then some 5 else (if 57 < p1 then some 5 else some 4)) else some 5))) else (if 51 < p1 then (if p0 = 1 then (if p1 = 108 then some 2 else (if p1 = 114 then some 2 else some 5)) else (if p0 = 2 then (if p1 = 46 then some 3 else some 5) else (if p0 = 3 then (if p1 < 48 then some 5 else (if 57 < p1 then some 5 else some 4)) else some 5))) else (if p0 = 1 then (if p1 = 108 then some 2 else (if p1 = 114 then some 2 else some 5)) else (if p0 = 2 then (if p1 = 46 then some 3 else some 1) else (if p0 = 3 then (if p1 < 48 then some 5 else (if 57 < p1 then some 5 else some 4)) else some 1)))))
set_option maxHeartbeats 4000000 in
set_option maxRecDepth 100000 in
theorem s_X2_placeBehind (l : Launch) (g : bwG)   (p0 : Int32) (p1 : Int32) (res : Int32) (hf : f_X2_placeBehind  p0 p1 = some res) : bwS l g yX2_placeBehind cX2_placeBehind 3 (some .int) ({ frames := 0, cells := 0, slots := 0, locals := 0 } : Room) [.int p0, .int p1] ([]) (fun r w => r = some (.int res) ∧ w = []) := by
  refine bwS_of (by decide) (Nat.le_of_ble_eq_true rfl) ?_
  unfold f_X2_placeBehind at hf
  show bwR l g cX2_placeBehind 3 RX2 "placeBehind" (some .int) ({ frames := 0, cells := 0, slots := 0, locals := 0 } : Room) bwT (bwZ g (fun r w => r = some (.int res) ∧ w = []) 0 0) 0 [(0, .int p0), (1, .int p1)] [] ([]) 0 0
  refine bw_iload_n 1 dX2_placeBehind_0 rfl rfl ?_
  refine bw_bipush 49 dX2_placeBehind_1 (by decide) ?_
  refine bw_icmp_lt 16 dX2_placeBehind_3 (by decide) (fun c_27 => ?_) (fun c_27 => ?_)
  · have hf := bw_pos c_27 hf
    refine bw_iconst 0 dX2_placeBehind_16 (by decide) ?_
    refine bw_istore_n [(2, .int 0), (0, .int p0), (1, .int p1)] dX2_placeBehind_17 rfl (by decide) rfl ?_
    refine bw_iload_n 1 dX2_placeBehind_18 rfl rfl ?_
    rcases Decidable.em (p0 = 1) with c_28 | c_28
    · have hf := bw_pos c_28 hf
      refine bw_tableIn (off := 25) 44 dX2_placeBehind_19 (by rw [c_28]; decide) (by rw [c_28]; decide) (by rw [c_28]; rfl) (by decide) ?_
      refine bw_iload_n 2 dX2_placeBehind_44 rfl rfl ?_
      refine bw_bipush 108 dX2_placeBehind_45 (by decide) ?_
      refine bw_icmp_eq 56 dX2_placeBehind_47 (by decide) (fun c_29 => ?_) (fun c_29 => ?_)
      · have hf := bw_pos c_29 hf
        refine bw_iconst 2 dX2_placeBehind_56 (by decide) ?_
        refine bw_goto 61 dX2_placeBehind_57 (by decide) ?_
        cases Option.some.inj hf
        exact bw_ret rfl rfl (Nat.le_of_ble_eq_true rfl) (Nat.le_of_ble_eq_true rfl) dX2_placeBehind_61 ⟨rfl, rfl⟩
      · have hf := bw_neg c_29 hf
        refine bw_iload_n 2 dX2_placeBehind_50 rfl rfl ?_
        refine bw_bipush 114 dX2_placeBehind_51 (by decide) ?_
        refine bw_icmp_ne 60 dX2_placeBehind_53 (by decide) (fun c_30 => ?_) (fun c_30 => ?_)
        · have hf := bw_neg c_30 hf
          refine bw_iconst 5 dX2_placeBehind_60 (by decide) ?_
          cases Option.some.inj hf
          exact bw_ret rfl rfl (Nat.le_of_ble_eq_true rfl) (Nat.le_of_ble_eq_true rfl) dX2_placeBehind_61 ⟨rfl, rfl⟩
        · have hf := bw_pos c_30 hf
          refine bw_iconst 2 dX2_placeBehind_56 (by decide) ?_
          refine bw_goto 61 dX2_placeBehind_57 (by decide) ?_
          cases Option.some.inj hf
          exact bw_ret rfl rfl (Nat.le_of_ble_eq_true rfl) (Nat.le_of_ble_eq_true rfl) dX2_placeBehind_61 ⟨rfl, rfl⟩
    · have hf := bw_neg c_28 hf
      rcases Decidable.em (p0 = 2) with c_31 | c_31
      · have hf := bw_pos c_31 hf
        refine bw_tableIn (off := 43) 62 dX2_placeBehind_19 (by rw [c_31]; decide) (by rw [c_31]; decide) (by rw [c_31]; rfl) (by decide) ?_
        refine bw_iload_n 2 dX2_placeBehind_62 rfl rfl ?_
        refine bw_bipush 46 dX2_placeBehind_63 (by decide) ?_
        refine bw_icmp_ne 70 dX2_placeBehind_65 (by decide) (fun c_32 => ?_) (fun c_32 => ?_)
        · have hf := bw_neg c_32 hf
          refine bw_iload_n 0 dX2_placeBehind_70 rfl rfl ?_
          refine bw_if_eq 78 dX2_placeBehind_71 (by decide) (fun _ => ?_) (fun c => absurd c (by decide))
          refine bw_iconst 5 dX2_placeBehind_78 (by decide) ?_
          cases Option.some.inj hf
          exact bw_ret rfl rfl (Nat.le_of_ble_eq_true rfl) (Nat.le_of_ble_eq_true rfl) dX2_placeBehind_79 ⟨rfl, rfl⟩
        · have hf := bw_pos c_32 hf
          refine bw_iconst 3 dX2_placeBehind_68 (by decide) ?_
          cases Option.some.inj hf
          exact bw_ret rfl rfl (Nat.le_of_ble_eq_true rfl) (Nat.le_of_ble_eq_true rfl) dX2_placeBehind_69 ⟨rfl, rfl⟩
      · have hf := bw_neg c_31 hf
        rcases Decidable.em (p0 = 3) with c_33 | c_33
        · have hf := bw_pos c_33 hf
          refine bw_tableIn (off := 61) 80 dX2_placeBehind_19 (by rw [c_33]; decide) (by rw [c_33]; decide) (by rw [c_33]; rfl) (by decide) ?_
          refine bw_iload_n 2 dX2_placeBehind_80 rfl rfl ?_
          refine bw_bipush 48 dX2_placeBehind_81 (by decide) ?_
          refine bw_icmp_lt 96 dX2_placeBehind_83 (by decide) (fun c_34 => ?_) (fun c_34 => ?_)
          · have hf := bw_pos c_34 hf
            refine bw_iconst 5 dX2_placeBehind_96 (by decide) ?_
            cases Option.some.inj hf
            exact bw_ret rfl rfl (Nat.le_of_ble_eq_true rfl) (Nat.le_of_ble_eq_true rfl) dX2_placeBehind_97 ⟨rfl, rfl⟩
          · have hf := bw_neg c_34 hf
            refine bw_iload_n 2 dX2_placeBehind_86 rfl rfl ?_
            refine bw_bipush 57 dX2_placeBehind_87 (by decide) ?_
            refine bw_icmp_gt 96 dX2_placeBehind_89 (by decide) (fun c_35 => ?_) (fun c_35 => ?_)
            · have hf := bw_pos c_35 hf
              refine bw_iconst 5 dX2_placeBehind_96 (by decide) ?_
              cases Option.some.inj hf
              exact bw_ret rfl rfl (Nat.le_of_ble_eq_true rfl) (Nat.le_of_ble_eq_true rfl) dX2_placeBehind_97 ⟨rfl, rfl⟩
            · have hf := bw_neg c_35 hf
              refine bw_iconst 4 dX2_placeBehind_92 (by decide) ?_
              refine bw_goto 97 dX2_placeBehind_93 (by decide) ?_
              cases Option.some.inj hf
              exact bw_ret rfl rfl (Nat.le_of_ble_eq_true rfl) (Nat.le_of_ble_eq_true rfl) dX2_placeBehind_97 ⟨rfl, rfl⟩
        · have hf := bw_neg c_33 hf
          refine bw_tableOut 98 dX2_placeBehind_19 (bw_out3_1 c_28 c_31 c_33) (by decide) ?_
          refine bw_iload_n 0 dX2_placeBehind_98 rfl rfl ?_
          refine bw_if_eq 106 dX2_placeBehind_99 (by decide) (fun _ => ?_) (fun c => absurd c (by decide))
          refine bw_iconst 5 dX2_placeBehind_106 (by decide) ?_
          cases Option.some.inj hf
          exact bw_ret rfl rfl (Nat.le_of_ble_eq_true rfl) (Nat.le_of_ble_eq_true rfl) dX2_placeBehind_107 ⟨rfl, rfl⟩
  · have hf := bw_neg c_27 hf
    refine bw_iload_n 1 dX2_placeBehind_6 rfl rfl ?_
    refine bw_bipush 51 dX2_placeBehind_7 (by decide) ?_
    refine bw_icmp_gt 16 dX2_placeBehind_9 (by decide) (fun c_36 => ?_) (fun c_36 => ?_)
    · have hf := bw_pos c_36 hf
      refine bw_iconst 0 dX2_placeBehind_16 (by decide) ?_
      refine bw_istore_n [(2, .int 0), (0, .int p0), (1, .int p1)] dX2_placeBehind_17 rfl (by decide) rfl ?_
      refine bw_iload_n 1 dX2_placeBehind_18 rfl rfl ?_
      rcases Decidable.em (p0 = 1) with c_37 | c_37
      · have hf := bw_pos c_37 hf
        refine bw_tableIn (off := 25) 44 dX2_placeBehind_19 (by rw [c_37]; decide) (by rw [c_37]; decide) (by rw [c_37]; rfl) (by decide) ?_
        refine bw_iload_n 2 dX2_placeBehind_44 rfl rfl ?_
        refine bw_bipush 108 dX2_placeBehind_45 (by decide) ?_
        refine bw_icmp_eq 56 dX2_placeBehind_47 (by decide) (fun c_38 => ?_) (fun c_38 => ?_)
        · have hf := bw_pos c_38 hf
          refine bw_iconst 2 dX2_placeBehind_56 (by decide) ?_
          refine bw_goto 61 dX2_placeBehind_57 (by decide) ?_
          cases Option.some.inj hf
          exact bw_ret rfl rfl (Nat.le_of_ble_eq_true rfl) (Nat.le_of_ble_eq_true rfl) dX2_placeBehind_61 ⟨rfl, rfl⟩
        · have hf := bw_neg c_38 hf
          refine bw_iload_n 2 dX2_placeBehind_50 rfl rfl ?_
          refine bw_bipush 114 dX2_placeBehind_51 (by decide) ?_
          refine bw_icmp_ne 60 dX2_placeBehind_53 (by decide) (fun c_39 => ?_) (fun c_39 => ?_)
          · have hf := bw_neg c_39 hf
            refine bw_iconst 5 dX2_placeBehind_60 (by decide) ?_
            cases Option.some.inj hf
            exact bw_ret rfl rfl (Nat.le_of_ble_eq_true rfl) (Nat.le_of_ble_eq_true rfl) dX2_placeBehind_61 ⟨rfl, rfl⟩
          · have hf := bw_pos c_39 hf
            refine bw_iconst 2 dX2_placeBehind_56 (by decide) ?_
            refine bw_goto 61 dX2_placeBehind_57 (by decide) ?_
            cases Option.some.inj hf
            exact bw_ret rfl rfl (Nat.le_of_ble_eq_true rfl) (Nat.le_of_ble_eq_true rfl) dX2_placeBehind_61 ⟨rfl, rfl⟩
      · have hf := bw_neg c_37 hf
        rcases Decidable.em (p0 = 2) with c_40 | c_40
        · have hf := bw_pos c_40 hf
          refine bw_tableIn (off := 43) 62 dX2_placeBehind_19 (by rw [c_40]; decide) (by rw [c_40]; decide) (by rw [c_40]; rfl) (by decide) ?_
          refine bw_iload_n 2 dX2_placeBehind_62 rfl rfl ?_
          refine bw_bipush 46 dX2_placeBehind_63 (by decide) ?_
          refine bw_icmp_ne 70 dX2_placeBehind_65 (by decide) (fun c_41 => ?_) (fun c_41 => ?_)
          · have hf := bw_neg c_41 hf
            refine bw_iload_n 0 dX2_placeBehind_70 rfl rfl ?_
            refine bw_if_eq 78 dX2_placeBehind_71 (by decide) (fun _ => ?_) (fun c => absurd c (by decide))
            refine bw_iconst 5 dX2_placeBehind_78 (by decide) ?_
            cases Option.some.inj hf
            exact bw_ret rfl rfl (Nat.le_of_ble_eq_true rfl) (Nat.le_of_ble_eq_true rfl) dX2_placeBehind_79 ⟨rfl, rfl⟩
          · have hf := bw_pos c_41 hf
            refine bw_iconst 3 dX2_placeBehind_68 (by decide) ?_
            cases Option.some.inj hf
            exact bw_ret rfl rfl (Nat.le_of_ble_eq_true rfl) (Nat.le_of_ble_eq_true rfl) dX2_placeBehind_69 ⟨rfl, rfl⟩
        · have hf := bw_neg c_40 hf
          rcases Decidable.em (p0 = 3) with c_42 | c_42
          · have hf := bw_pos c_42 hf
            refine bw_tableIn (off := 61) 80 dX2_placeBehind_19 (by rw [c_42]; decide) (by rw [c_42]; decide) (by rw [c_42]; rfl) (by decide) ?_
            refine bw_iload_n 2 dX2_placeBehind_80 rfl rfl ?_
            refine bw_bipush 48 dX2_placeBehind_81 (by decide) ?_
            refine bw_icmp_lt 96 dX2_placeBehind_83 (by decide) (fun c_43 => ?_) (fun c_43 => ?_)
            · have hf := bw_pos c_43 hf
              refine bw_iconst 5 dX2_placeBehind_96 (by decide) ?_
              cases Option.some.inj hf
              exact bw_ret rfl rfl (Nat.le_of_ble_eq_true rfl) (Nat.le_of_ble_eq_true rfl) dX2_placeBehind_97 ⟨rfl, rfl⟩
            · have hf := bw_neg c_43 hf
              refine bw_iload_n 2 dX2_placeBehind_86 rfl rfl ?_
              refine bw_bipush 57 dX2_placeBehind_87 (by decide) ?_
              refine bw_icmp_gt 96 dX2_placeBehind_89 (by decide) (fun c_44 => ?_) (fun c_44 => ?_)
              · have hf := bw_pos c_44 hf
                refine bw_iconst 5 dX2_placeBehind_96 (by decide) ?_
                cases Option.some.inj hf
                exact bw_ret rfl rfl (Nat.le_of_ble_eq_true rfl) (Nat.le_of_ble_eq_true rfl) dX2_placeBehind_97 ⟨rfl, rfl⟩
              · have hf := bw_neg c_44 hf
                refine bw_iconst 4 dX2_placeBehind_92 (by decide) ?_
                refine bw_goto 97 dX2_placeBehind_93 (by decide) ?_
                cases Option.some.inj hf
                exact bw_ret rfl rfl (Nat.le_of_ble_eq_true rfl) (Nat.le_of_ble_eq_true rfl) dX2_placeBehind_97 ⟨rfl, rfl⟩
          · have hf := bw_neg c_42 hf
            refine bw_tableOut 98 dX2_placeBehind_19 (bw_out3_1 c_37 c_40 c_42) (by decide) ?_
            refine bw_iload_n 0 dX2_placeBehind_98 rfl rfl ?_
            refine bw_if_eq 106 dX2_placeBehind_99 (by decide) (fun _ => ?_) (fun c => absurd c (by decide))
            refine bw_iconst 5 dX2_placeBehind_106 (by decide) ?_
            cases Option.some.inj hf
            exact bw_ret rfl rfl (Nat.le_of_ble_eq_true rfl) (Nat.le_of_ble_eq_true rfl) dX2_placeBehind_107 ⟨rfl, rfl⟩
    · have hf := bw_neg c_36 hf
      refine bw_iconst 1 dX2_placeBehind_12 (by decide) ?_
      refine bw_goto 17 dX2_placeBehind_13 (by decide) ?_
      refine bw_istore_n [(2, .int 1), (0, .int p0), (1, .int p1)] dX2_placeBehind_17 rfl (by decide) rfl ?_
      refine bw_iload_n 1 dX2_placeBehind_18 rfl rfl ?_
      rcases Decidable.em (p0 = 1) with c_45 | c_45
      · have hf := bw_pos c_45 hf
        refine bw_tableIn (off := 25) 44 dX2_placeBehind_19 (by rw [c_45]; decide) (by rw [c_45]; decide) (by rw [c_45]; rfl) (by decide) ?_
        refine bw_iload_n 2 dX2_placeBehind_44 rfl rfl ?_
        refine bw_bipush 108 dX2_placeBehind_45 (by decide) ?_
        refine bw_icmp_eq 56 dX2_placeBehind_47 (by decide) (fun c_46 => ?_) (fun c_46 => ?_)
        · have hf := bw_pos c_46 hf
          refine bw_iconst 2 dX2_placeBehind_56 (by decide) ?_
          refine bw_goto 61 dX2_placeBehind_57 (by decide) ?_
          cases Option.some.inj hf
          exact bw_ret rfl rfl (Nat.le_of_ble_eq_true rfl) (Nat.le_of_ble_eq_true rfl) dX2_placeBehind_61 ⟨rfl, rfl⟩
        · have hf := bw_neg c_46 hf
          refine bw_iload_n 2 dX2_placeBehind_50 rfl rfl ?_
          refine bw_bipush 114 dX2_placeBehind_51 (by decide) ?_
          refine bw_icmp_ne 60 dX2_placeBehind_53 (by decide) (fun c_47 => ?_) (fun c_47 => ?_)
          · have hf := bw_neg c_47 hf
            refine bw_iconst 5 dX2_placeBehind_60 (by decide) ?_
            cases Option.some.inj hf
            exact bw_ret rfl rfl (Nat.le_of_ble_eq_true rfl) (Nat.le_of_ble_eq_true rfl) dX2_placeBehind_61 ⟨rfl, rfl⟩
          · have hf := bw_pos c_47 hf
            refine bw_iconst 2 dX2_placeBehind_56 (by decide) ?_
            refine bw_goto 61 dX2_placeBehind_57 (by decide) ?_
            cases Option.some.inj hf
            exact bw_ret rfl rfl (Nat.le_of_ble_eq_true rfl) (Nat.le_of_ble_eq_true rfl) dX2_placeBehind_61 ⟨rfl, rfl⟩
      · have hf := bw_neg c_45 hf
        rcases Decidable.em (p0 = 2) with c_48 | c_48
        · have hf := bw_pos c_48 hf
          refine bw_tableIn (off := 43) 62 dX2_placeBehind_19 (by rw [c_48]; decide) (by rw [c_48]; decide) (by rw [c_48]; rfl) (by decide) ?_
          refine bw_iload_n 2 dX2_placeBehind_62 rfl rfl ?_
          refine bw_bipush 46 dX2_placeBehind_63 (by decide) ?_
          refine bw_icmp_ne 70 dX2_placeBehind_65 (by decide) (fun c_49 => ?_) (fun c_49 => ?_)
          · have hf := bw_neg c_49 hf
            refine bw_iload_n 0 dX2_placeBehind_70 rfl rfl ?_
            refine bw_if_eq 78 dX2_placeBehind_71 (by decide) (fun c => absurd c (by decide)) (fun _ => ?_)
            refine bw_iconst 1 dX2_placeBehind_74 (by decide) ?_
            refine bw_goto 79 dX2_placeBehind_75 (by decide) ?_
            cases Option.some.inj hf
            exact bw_ret rfl rfl (Nat.le_of_ble_eq_true rfl) (Nat.le_of_ble_eq_true rfl) dX2_placeBehind_79 ⟨rfl, rfl⟩
          · have hf := bw_pos c_49 hf
            refine bw_iconst 3 dX2_placeBehind_68 (by decide) ?_
            cases Option.some.inj hf
            exact bw_ret rfl rfl (Nat.le_of_ble_eq_true rfl) (Nat.le_of_ble_eq_true rfl) dX2_placeBehind_69 ⟨rfl, rfl⟩
        · have hf := bw_neg c_48 hf
          rcases Decidable.em (p0 = 3) with c_50 | c_50
          · have hf := bw_pos c_50 hf
            refine bw_tableIn (off := 61) 80 dX2_placeBehind_19 (by rw [c_50]; decide) (by rw [c_50]; decide) (by rw [c_50]; rfl) (by decide) ?_
            refine bw_iload_n 2 dX2_placeBehind_80 rfl rfl ?_
            refine bw_bipush 48 dX2_placeBehind_81 (by decide) ?_
            refine bw_icmp_lt 96 dX2_placeBehind_83 (by decide) (fun c_51 => ?_) (fun c_51 => ?_)
            · have hf := bw_pos c_51 hf
              refine bw_iconst 5 dX2_placeBehind_96 (by decide) ?_
              cases Option.some.inj hf
              exact bw_ret rfl rfl (Nat.le_of_ble_eq_true rfl) (Nat.le_of_ble_eq_true rfl) dX2_placeBehind_97 ⟨rfl, rfl⟩
            · have hf := bw_neg c_51 hf
              refine bw_iload_n 2 dX2_placeBehind_86 rfl rfl ?_
              refine bw_bipush 57 dX2_placeBehind_87 (by decide) ?_
              refine bw_icmp_gt 96 dX2_placeBehind_89 (by decide) (fun c_52 => ?_) (fun c_52 => ?_)
              · have hf := bw_pos c_52 hf
                refine bw_iconst 5 dX2_placeBehind_96 (by decide) ?_
                cases Option.some.inj hf
                exact bw_ret rfl rfl (Nat.le_of_ble_eq_true rfl) (Nat.le_of_ble_eq_true rfl) dX2_placeBehind_97 ⟨rfl, rfl⟩
              · have hf := bw_neg c_52 hf
                refine bw_iconst 4 dX2_placeBehind_92 (by decide) ?_
                refine bw_goto 97 dX2_placeBehind_93 (by decide) ?_
                cases Option.some.inj hf
                exact bw_ret rfl rfl (Nat.le_of_ble_eq_true rfl) (Nat.le_of_ble_eq_true rfl) dX2_placeBehind_97 ⟨rfl, rfl⟩
          · have hf := bw_neg c_50 hf
            refine bw_tableOut 98 dX2_placeBehind_19 (bw_out3_1 c_45 c_48 c_50) (by decide) ?_
            refine bw_iload_n 0 dX2_placeBehind_98 rfl rfl ?_
            refine bw_if_eq 106 dX2_placeBehind_99 (by decide) (fun c => absurd c (by decide)) (fun _ => ?_)
            refine bw_iconst 1 dX2_placeBehind_102 (by decide) ?_
            refine bw_goto 107 dX2_placeBehind_103 (by decide) ?_
            cases Option.some.inj hf
            exact bw_ret rfl rfl (Nat.le_of_ble_eq_true rfl) (Nat.le_of_ble_eq_true rfl) dX2_placeBehind_107 ⟨rfl, rfl⟩
def f_X2_firstFault_L4 : Nat → (Int32) → (Nat → Int32) → (Int32) → (Int32) → Option (Int32)
  | 0, _, _, _, _ => none
  | fu + 1, vh_length, vh_characters, x1, x2 => (if vh_length ≤ x2 then (if x1 = 2 then some (-1000006) else (if x1 = 4 then some (-1000006) else some vh_length)) else ((f_X2_characterAt vh_length vh_characters x2).bind fun q_10 => ((f_X2_placeBehind x1 q_10).bind fun q_11 => (if q_11 = 5 then some x2 else (f_X2_firstFault_L4 fu vh_length vh_characters q_11 ((x2 + 1)))))))
set_option maxHeartbeats 4000000 in
set_option maxRecDepth 100000 in
theorem s_X2_firstFault_L4 (l : Launch) (g : bwG) (ah ah_characters : Nat) (fu : Nat) : ∀ (vh_length : Int32) (vh_characters : Nat → Int32) (x1 : Int32) (x2 : Int32) (res : Int32), f_X2_firstFault_L4 fu vh_length vh_characters x1 x2 = some res → bwR l g cX2_firstFault 3 RX2 "firstFault" (some .int) ({ frames := 1, cells := 0, slots := 0, locals := 22 } : Room) bwT (bwZ g (fun r w => r = some (.int res) ∧ w = [(ah, .inr (2, [.ref ah_characters, .int vh_length])), (ah_characters, .inl (g.2.2.1, 60, .inl vh_characters))]) 0 0) 4 [(0, .ref ah), (1, .int x1), (2, .int x2)] [] ([(ah, .inr (2, [.ref ah_characters, .int vh_length])), (ah_characters, .inl (g.2.2.1, 60, .inl vh_characters))]) 0 0 := by
  induction fu with
  | zero => intro vh_length vh_characters x1 x2 res hf; exact absurd hf (by intro h; cases h)
  | succ fu ih =>
    intro vh_length vh_characters x1 x2 res hf
    rw [f_X2_firstFault_L4] at hf
    refine bw_iload_n 2 dX2_firstFault_4 rfl rfl ?_
    refine bw_aload_n 0 dX2_firstFault_5 rfl rfl ?_
    refine bw_gf bkX2 0 1 (by decide) fl_X2_15 rfl rfl dX2_firstFault_6 ?_
    refine bw_icmp_ge 35 dX2_firstFault_9 (by decide) (fun c_7 => ?_) (fun c_7 => ?_)
    · have hf := bw_pos c_7 hf
      refine bw_iload_n 1 dX2_firstFault_35 rfl rfl ?_
      refine bw_iconst 2 dX2_firstFault_36 (by decide) ?_
      refine bw_icmp_eq 45 dX2_firstFault_37 (by decide) (fun c_8 => ?_) (fun c_8 => ?_)
      · have hf := bw_pos c_8 hf
        refine bw_iconst 1 dX2_firstFault_45 (by decide) ?_
        refine bw_goto 50 dX2_firstFault_46 (by decide) ?_
        refine bw_istore_n [(2, .int 1), (0, .ref ah), (1, .int x1)] dX2_firstFault_50 rfl (by decide) rfl ?_
        refine bw_iload_n 0 dX2_firstFault_51 rfl rfl ?_
        refine bw_if_eq 60 dX2_firstFault_52 (by decide) (fun c => absurd c (by decide)) (fun _ => ?_)
        refine bw_ldc ct_X2_27 dX2_firstFault_55 ?_
        refine bw_goto 64 dX2_firstFault_57 (by decide) ?_
        cases Option.some.inj hf
        exact bw_ret rfl rfl (Nat.le_of_ble_eq_true rfl) (Nat.le_of_ble_eq_true rfl) dX2_firstFault_64 ⟨rfl, rfl⟩
      · have hf := bw_neg c_8 hf
        refine bw_iload_n 1 dX2_firstFault_40 rfl rfl ?_
        refine bw_iconst 4 dX2_firstFault_41 (by decide) ?_
        refine bw_icmp_ne 49 dX2_firstFault_42 (by decide) (fun c_9 => ?_) (fun c_9 => ?_)
        · have hf := bw_neg c_9 hf
          refine bw_iconst 0 dX2_firstFault_49 (by decide) ?_
          refine bw_istore_n [(2, .int 0), (0, .ref ah), (1, .int x1)] dX2_firstFault_50 rfl (by decide) rfl ?_
          refine bw_iload_n 0 dX2_firstFault_51 rfl rfl ?_
          refine bw_if_eq 60 dX2_firstFault_52 (by decide) (fun _ => ?_) (fun c => absurd c (by decide))
          refine bw_aload_n 1 dX2_firstFault_60 rfl rfl ?_
          refine bw_gf bkX2 0 1 (by decide) fl_X2_15 rfl rfl dX2_firstFault_61 ?_
          cases Option.some.inj hf
          exact bw_ret rfl rfl (Nat.le_of_ble_eq_true rfl) (Nat.le_of_ble_eq_true rfl) dX2_firstFault_64 ⟨rfl, rfl⟩
        · have hf := bw_pos c_9 hf
          refine bw_iconst 1 dX2_firstFault_45 (by decide) ?_
          refine bw_goto 50 dX2_firstFault_46 (by decide) ?_
          refine bw_istore_n [(2, .int 1), (0, .ref ah), (1, .int x1)] dX2_firstFault_50 rfl (by decide) rfl ?_
          refine bw_iload_n 0 dX2_firstFault_51 rfl rfl ?_
          refine bw_if_eq 60 dX2_firstFault_52 (by decide) (fun c => absurd c (by decide)) (fun _ => ?_)
          refine bw_ldc ct_X2_27 dX2_firstFault_55 ?_
          refine bw_goto 64 dX2_firstFault_57 (by decide) ?_
          cases Option.some.inj hf
          exact bw_ret rfl rfl (Nat.le_of_ble_eq_true rfl) (Nat.le_of_ble_eq_true rfl) dX2_firstFault_64 ⟨rfl, rfl⟩
    · have hf := bw_neg c_7 hf
      refine bw_iload_n 1 dX2_firstFault_12 rfl rfl ?_
      refine bw_aload_n 0 dX2_firstFault_13 rfl rfl ?_
      refine bw_iload_n 2 dX2_firstFault_14 rfl rfl ?_
      obtain ⟨q_10, hc_10, hf⟩ := bw_bind hf
      refine bw_callV [.int x2] [.int x1] [] 0 2 (s_X2_characterAt l g ah ah_characters vh_length vh_characters x2 _ hc_10) rfl co_X2_characterAt ini_X2 ml_X2_19 im_X2_characterAt se_X2_characterAt ar_X2_characterAt ⟨Nat.le_of_ble_eq_true rfl, Nat.le_of_ble_eq_true rfl⟩ ⟨Nat.le_of_ble_eq_true rfl, Nat.le_of_ble_eq_true rfl⟩ rfl rfl (bw_pick1 2 [0, 1] rfl rfl (by decide)) (Nat.le_of_ble_eq_true rfl) dX2_firstFault_15 (fun r w1 hq => ?_)
      obtain ⟨rfl, rfl⟩ := hq
      refine bw_perm (ws1 := [(ah, .inr (2, [.ref ah_characters, .int vh_length])), (ah_characters, .inl (g.2.2.1, 60, .inl vh_characters))]) (bw_pick1 2 [0, 1] rfl rfl (by decide)) ?_
      refine bw_st (st1 := [.int q_10, .int x1]) rfl ?_
      obtain ⟨q_11, hc_11, hf⟩ := bw_bind hf
      refine bw_callS [.int x1, .int q_10] [] [(ah, .inr (2, [.ref ah_characters, .int vh_length])), (ah_characters, .inl (g.2.2.1, 60, .inl vh_characters))] (s_X2_placeBehind l g   x1 q_10 _ hc_11) rfl co_X2_placeBehind ini_X2 ml_X2_23 st_X2_placeBehind ar_X2_placeBehind ⟨Nat.le_of_ble_eq_true rfl, Nat.le_of_ble_eq_true rfl⟩ ⟨Nat.le_of_ble_eq_true rfl, Nat.le_of_ble_eq_true rfl⟩ (bw_pick1 2 [0, 1] rfl rfl (by decide)) (Nat.le_of_ble_eq_true rfl) dX2_firstFault_18 (fun r w1 hq => ?_)
      obtain ⟨rfl, rfl⟩ := hq
      refine bw_perm (ws1 := [(ah, .inr (2, [.ref ah_characters, .int vh_length])), (ah_characters, .inl (g.2.2.1, 60, .inl vh_characters))]) (bw_pick1 2 [0, 1] rfl rfl (by decide)) ?_
      refine bw_st (st1 := [.int q_11]) rfl ?_
      refine bw_istore_n [(1, .int q_11), (0, .ref ah), (2, .int x2)] dX2_firstFault_21 rfl (by decide) rfl ?_
      refine bw_iload_n 0 dX2_firstFault_22 rfl rfl ?_
      refine bw_iconst 5 dX2_firstFault_23 (by decide) ?_
      refine bw_icmp_ne 29 dX2_firstFault_24 (by decide) (fun c_12 => ?_) (fun c_12 => ?_)
      · have hf := bw_neg c_12 hf
        refine bw_iinc 2 (x2 + 1) [(2, .int ((x2 + 1))), (1, .int q_11), (0, .ref ah)] dX2_firstFault_29 rfl rfl (by decide) rfl ?_
        refine bw_goto 4 dX2_firstFault_32 (by decide) ?_
        refine bw_lv [2, 1, 0] rfl ?_
        exact ih vh_length vh_characters q_11 ((x2 + 1)) _ hf
      · have hf := bw_pos c_12 hf
        refine bw_iload_n 2 dX2_firstFault_27 rfl rfl ?_
        cases Option.some.inj hf
        exact bw_ret rfl rfl (Nat.le_of_ble_eq_true rfl) (Nat.le_of_ble_eq_true rfl) dX2_firstFault_28 ⟨rfl, rfl⟩
theorem ar_X2_firstFault : yX2_firstFault.cls ≠ "java/lang/invoke/MethodHandle" ∧ yX2_firstFault.cls ≠ "java/lang/invoke/VarHandle" ∧ (parseMethodDescriptor yX2_firstFault.desc).map (fun d => d.parameters.length) = some 0 := ⟨by decide, by decide, by decide +kernel⟩
def f_X2_firstFault (vh_length : Int32) (vh_characters : Nat → Int32)  : Option (Int32) := (f_X2_firstFault_L4 bw_F vh_length vh_characters 0 0)
set_option maxHeartbeats 4000000 in
set_option maxRecDepth 100000 in
theorem s_X2_firstFault (l : Launch) (g : bwG) (ah ah_characters : Nat) (vh_length : Int32) (vh_characters : Nat → Int32)  (res : Int32) (hf : f_X2_firstFault vh_length vh_characters  = some res) : bwS l g yX2_firstFault cX2_firstFault 3 (some .int) ({ frames := 1, cells := 0, slots := 0, locals := 22 } : Room) [.ref ah] ([(ah, .inr (2, [.ref ah_characters, .int vh_length])), (ah_characters, .inl (g.2.2.1, 60, .inl vh_characters))]) (fun r w => r = some (.int res) ∧ w = [(ah, .inr (2, [.ref ah_characters, .int vh_length])), (ah_characters, .inl (g.2.2.1, 60, .inl vh_characters))]) := by
  refine bwS_of (by decide) (Nat.le_of_ble_eq_true rfl) ?_
  unfold f_X2_firstFault at hf
  show bwR l g cX2_firstFault 3 RX2 "firstFault" (some .int) ({ frames := 1, cells := 0, slots := 0, locals := 22 } : Room) bwT (bwZ g (fun r w => r = some (.int res) ∧ w = [(ah, .inr (2, [.ref ah_characters, .int vh_length])), (ah_characters, .inl (g.2.2.1, 60, .inl vh_characters))]) 0 0) 0 [(0, .ref ah)] [] ([(ah, .inr (2, [.ref ah_characters, .int vh_length])), (ah_characters, .inl (g.2.2.1, 60, .inl vh_characters))]) 0 0
  refine bw_iconst 0 dX2_firstFault_0 (by decide) ?_
  refine bw_istore_n [(1, .int 0), (0, .ref ah)] dX2_firstFault_1 rfl (by decide) rfl ?_
  refine bw_iconst 0 dX2_firstFault_2 (by decide) ?_
  refine bw_istore_n [(2, .int 0), (1, .int 0), (0, .ref ah)] dX2_firstFault_3 rfl (by decide) rfl ?_
  refine bw_lv [2, 1, 0] rfl ?_
  exact s_X2_firstFault_L4 l g ah ah_characters bw_F vh_length vh_characters 0 0 _ hf
def f_X2_bowsInText_L4 : Nat → (Int32) → (Nat → Int32) → (Int32) → (Int32) → Option (Int32)
  | 0, _, _, _, _ => none
  | fu + 1, vh_length, vh_characters, x1, x2 => (if vh_length ≤ x2 then some x1 else ((f_X2_characterAt vh_length vh_characters x2).bind fun q_7 => (if q_7 = 108 then (f_X2_bowsInText_L4 fu vh_length vh_characters ((x1 + 1)) ((x2 + 1))) else ((f_X2_characterAt vh_length vh_characters x2).bind fun q_9 => (if q_9 = 114 then (f_X2_bowsInText_L4 fu vh_length vh_characters ((x1 + 1)) ((x2 + 1))) else (f_X2_bowsInText_L4 fu vh_length vh_characters x1 ((x2 + 1))))))))
set_option maxHeartbeats 4000000 in
set_option maxRecDepth 100000 in
theorem s_X2_bowsInText_L4 (l : Launch) (g : bwG) (ah ah_characters : Nat) (fu : Nat) : ∀ (vh_length : Int32) (vh_characters : Nat → Int32) (x1 : Int32) (x2 : Int32) (res : Int32), f_X2_bowsInText_L4 fu vh_length vh_characters x1 x2 = some res → bwR l g cX2_bowsInText 3 RX2 "bowsInText" (some .int) ({ frames := 1, cells := 0, slots := 0, locals := 21 } : Room) bwT (bwZ g (fun r w => r = some (.int res) ∧ w = [(ah, .inr (2, [.ref ah_characters, .int vh_length])), (ah_characters, .inl (g.2.2.1, 60, .inl vh_characters))]) 0 0) 4 [(0, .ref ah), (1, .int x1), (2, .int x2)] [] ([(ah, .inr (2, [.ref ah_characters, .int vh_length])), (ah_characters, .inl (g.2.2.1, 60, .inl vh_characters))]) 0 0 := by
  induction fu with
  | zero => intro vh_length vh_characters x1 x2 res hf; exact absurd hf (by intro h; cases h)
  | succ fu ih =>
    intro vh_length vh_characters x1 x2 res hf
    rw [f_X2_bowsInText_L4] at hf
    refine bw_iload_n 2 dX2_bowsInText_4 rfl rfl ?_
    refine bw_aload_n 0 dX2_bowsInText_5 rfl rfl ?_
    refine bw_gf bkX2 0 1 (by decide) fl_X2_15 rfl rfl dX2_bowsInText_6 ?_
    refine bw_icmp_ge 41 dX2_bowsInText_9 (by decide) (fun c_6 => ?_) (fun c_6 => ?_)
    · have hf := bw_pos c_6 hf
      refine bw_iload_n 1 dX2_bowsInText_41 rfl rfl ?_
      cases Option.some.inj hf
      exact bw_ret rfl rfl (Nat.le_of_ble_eq_true rfl) (Nat.le_of_ble_eq_true rfl) dX2_bowsInText_42 ⟨rfl, rfl⟩
    · have hf := bw_neg c_6 hf
      refine bw_aload_n 0 dX2_bowsInText_12 rfl rfl ?_
      refine bw_iload_n 2 dX2_bowsInText_13 rfl rfl ?_
      obtain ⟨q_7, hc_7, hf⟩ := bw_bind hf
      refine bw_callV [.int x2] [] [] 0 2 (s_X2_characterAt l g ah ah_characters vh_length vh_characters x2 _ hc_7) rfl co_X2_characterAt ini_X2 ml_X2_19 im_X2_characterAt se_X2_characterAt ar_X2_characterAt ⟨Nat.le_of_ble_eq_true rfl, Nat.le_of_ble_eq_true rfl⟩ ⟨Nat.le_of_ble_eq_true rfl, Nat.le_of_ble_eq_true rfl⟩ rfl rfl (bw_pick1 2 [0, 1] rfl rfl (by decide)) (Nat.le_of_ble_eq_true rfl) dX2_bowsInText_14 (fun r w1 hq => ?_)
      obtain ⟨rfl, rfl⟩ := hq
      refine bw_perm (ws1 := [(ah, .inr (2, [.ref ah_characters, .int vh_length])), (ah_characters, .inl (g.2.2.1, 60, .inl vh_characters))]) (bw_pick1 2 [0, 1] rfl rfl (by decide)) ?_
      refine bw_st (st1 := [.int q_7]) rfl ?_
      refine bw_bipush 108 dX2_bowsInText_17 (by decide) ?_
      refine bw_icmp_eq 32 dX2_bowsInText_19 (by decide) (fun c_8 => ?_) (fun c_8 => ?_)
      · have hf := bw_pos c_8 hf
        refine bw_iinc 1 (x1 + 1) [(1, .int ((x1 + 1))), (0, .ref ah), (2, .int x2)] dX2_bowsInText_32 rfl rfl (by decide) rfl ?_
        refine bw_iinc 2 (x2 + 1) [(2, .int ((x2 + 1))), (1, .int ((x1 + 1))), (0, .ref ah)] dX2_bowsInText_35 rfl rfl (by decide) rfl ?_
        refine bw_goto 4 dX2_bowsInText_38 (by decide) ?_
        refine bw_lv [2, 1, 0] rfl ?_
        exact ih vh_length vh_characters ((x1 + 1)) ((x2 + 1)) _ hf
      · have hf := bw_neg c_8 hf
        refine bw_aload_n 0 dX2_bowsInText_22 rfl rfl ?_
        refine bw_iload_n 2 dX2_bowsInText_23 rfl rfl ?_
        obtain ⟨q_9, hc_9, hf⟩ := bw_bind hf
        refine bw_callV [.int x2] [] [] 0 2 (s_X2_characterAt l g ah ah_characters vh_length vh_characters x2 _ hc_9) rfl co_X2_characterAt ini_X2 ml_X2_19 im_X2_characterAt se_X2_characterAt ar_X2_characterAt ⟨Nat.le_of_ble_eq_true rfl, Nat.le_of_ble_eq_true rfl⟩ ⟨Nat.le_of_ble_eq_true rfl, Nat.le_of_ble_eq_true rfl⟩ rfl rfl (bw_pick1 2 [0, 1] rfl rfl (by decide)) (Nat.le_of_ble_eq_true rfl) dX2_bowsInText_24 (fun r w1 hq => ?_)
        obtain ⟨rfl, rfl⟩ := hq
        refine bw_perm (ws1 := [(ah, .inr (2, [.ref ah_characters, .int vh_length])), (ah_characters, .inl (g.2.2.1, 60, .inl vh_characters))]) (bw_pick1 2 [0, 1] rfl rfl (by decide)) ?_
        refine bw_st (st1 := [.int q_9]) rfl ?_
        refine bw_bipush 114 dX2_bowsInText_27 (by decide) ?_
        refine bw_icmp_ne 35 dX2_bowsInText_29 (by decide) (fun c_10 => ?_) (fun c_10 => ?_)
        · have hf := bw_neg c_10 hf
          refine bw_iinc 2 (x2 + 1) [(2, .int ((x2 + 1))), (0, .ref ah), (1, .int x1)] dX2_bowsInText_35 rfl rfl (by decide) rfl ?_
          refine bw_goto 4 dX2_bowsInText_38 (by decide) ?_
          refine bw_lv [1, 2, 0] rfl ?_
          exact ih vh_length vh_characters x1 ((x2 + 1)) _ hf
        · have hf := bw_pos c_10 hf
          refine bw_iinc 1 (x1 + 1) [(1, .int ((x1 + 1))), (0, .ref ah), (2, .int x2)] dX2_bowsInText_32 rfl rfl (by decide) rfl ?_
          refine bw_iinc 2 (x2 + 1) [(2, .int ((x2 + 1))), (1, .int ((x1 + 1))), (0, .ref ah)] dX2_bowsInText_35 rfl rfl (by decide) rfl ?_
          refine bw_goto 4 dX2_bowsInText_38 (by decide) ?_
          refine bw_lv [2, 1, 0] rfl ?_
          exact ih vh_length vh_characters ((x1 + 1)) ((x2 + 1)) _ hf
theorem ar_X2_bowsInText : yX2_bowsInText.cls ≠ "java/lang/invoke/MethodHandle" ∧ yX2_bowsInText.cls ≠ "java/lang/invoke/VarHandle" ∧ (parseMethodDescriptor yX2_bowsInText.desc).map (fun d => d.parameters.length) = some 0 := ⟨by decide, by decide, by decide +kernel⟩
def f_X2_bowsInText (vh_length : Int32) (vh_characters : Nat → Int32)  : Option (Int32) := (f_X2_bowsInText_L4 bw_F vh_length vh_characters 0 0)
set_option maxHeartbeats 4000000 in
set_option maxRecDepth 100000 in
theorem s_X2_bowsInText (l : Launch) (g : bwG) (ah ah_characters : Nat) (vh_length : Int32) (vh_characters : Nat → Int32)  (res : Int32) (hf : f_X2_bowsInText vh_length vh_characters  = some res) : bwS l g yX2_bowsInText cX2_bowsInText 3 (some .int) ({ frames := 1, cells := 0, slots := 0, locals := 21 } : Room) [.ref ah] ([(ah, .inr (2, [.ref ah_characters, .int vh_length])), (ah_characters, .inl (g.2.2.1, 60, .inl vh_characters))]) (fun r w => r = some (.int res) ∧ w = [(ah, .inr (2, [.ref ah_characters, .int vh_length])), (ah_characters, .inl (g.2.2.1, 60, .inl vh_characters))]) := by
  refine bwS_of (by decide) (Nat.le_of_ble_eq_true rfl) ?_
  unfold f_X2_bowsInText at hf
  show bwR l g cX2_bowsInText 3 RX2 "bowsInText" (some .int) ({ frames := 1, cells := 0, slots := 0, locals := 21 } : Room) bwT (bwZ g (fun r w => r = some (.int res) ∧ w = [(ah, .inr (2, [.ref ah_characters, .int vh_length])), (ah_characters, .inl (g.2.2.1, 60, .inl vh_characters))]) 0 0) 0 [(0, .ref ah)] [] ([(ah, .inr (2, [.ref ah_characters, .int vh_length])), (ah_characters, .inl (g.2.2.1, 60, .inl vh_characters))]) 0 0
  refine bw_iconst 0 dX2_bowsInText_0 (by decide) ?_
  refine bw_istore_n [(1, .int 0), (0, .ref ah)] dX2_bowsInText_1 rfl (by decide) rfl ?_
  refine bw_iconst 0 dX2_bowsInText_2 (by decide) ?_
  refine bw_istore_n [(2, .int 0), (1, .int 0), (0, .ref ah)] dX2_bowsInText_3 rfl (by decide) rfl ?_
  refine bw_lv [2, 1, 0] rfl ?_
  exact s_X2_bowsInText_L4 l g ah ah_characters bw_F vh_length vh_characters 0 0 _ hf
theorem ar_X4_bowNumber : yX4_bowNumber.cls ≠ "java/lang/invoke/MethodHandle" ∧ yX4_bowNumber.cls ≠ "java/lang/invoke/VarHandle" ∧ (parseMethodDescriptor yX4_bowNumber.desc).map (fun d => d.parameters.length) = some 2 := ⟨by decide, by decide, by decide +kernel⟩
def f_X4_bowNumber  (p0 : Int32) (p1 : Int32) : Option (Int32) := some ((2 * (p0 - 1)) + p1)
set_option maxHeartbeats 4000000 in
set_option maxRecDepth 100000 in
theorem s_X4_bowNumber (l : Launch) (g : bwG)   (p0 : Int32) (p1 : Int32) (res : Int32) (hf : f_X4_bowNumber  p0 p1 = some res) : bwS l g yX4_bowNumber cX4_bowNumber 2 (some .int) ({ frames := 0, cells := 0, slots := 0, locals := 0 } : Room) [.int p0, .int p1] ([]) (fun r w => r = some (.int res) ∧ w = []) := by
  refine bwS_of (by decide) (Nat.le_of_ble_eq_true rfl) ?_
  unfold f_X4_bowNumber at hf
  show bwR l g cX4_bowNumber 2 RX4 "bowNumber" (some .int) ({ frames := 0, cells := 0, slots := 0, locals := 0 } : Room) bwT (bwZ g (fun r w => r = some (.int res) ∧ w = []) 0 0) 0 [(0, .int p0), (1, .int p1)] [] ([]) 0 0
  refine bw_iconst 2 dX4_bowNumber_0 (by decide) ?_
  refine bw_iload_n 0 dX4_bowNumber_1 rfl rfl ?_
  refine bw_iconst 1 dX4_bowNumber_2 (by decide) ?_
  refine bw_isub dX4_bowNumber_3 ?_
  refine bw_imul dX4_bowNumber_4 ?_
  refine bw_iload_n 1 dX4_bowNumber_5 rfl rfl ?_
  refine bw_iadd dX4_bowNumber_6 ?_
  cases Option.some.inj hf
  exact bw_ret rfl rfl (Nat.le_of_ble_eq_true rfl) (Nat.le_of_ble_eq_true rfl) dX4_bowNumber_7 ⟨rfl, rfl⟩
def f_X2_addBowsTo_L2 : Nat → (Int32) → (Nat → Int32) → (Int32) → (Nat → Int32) → (Nat → Int32) → (Int32) → Option ((Int32) × (Nat → Int32) × (Nat → Int32))
  | 0, _, _, _, _, _, _ => none
  | fu + 1, vh_length, vh_characters, vp0_bows, vp0_numbers, vp0_pauses, x2 => (if vh_length ≤ x2 then some (vp0_bows, vp0_numbers, vp0_pauses) else ((f_X2_characterAt vh_length vh_characters x2).bind fun q_20 => ((f_X2_characterAt vh_length vh_characters ((x2 + 1))).bind fun q_21 => (if q_21 = 114 then ((f_X2_characterAt vh_length vh_characters ((x2 + 2))).bind fun q_30 => (if q_30 = 46 then ((f_X2_characterAt vh_length vh_characters (((x2 + 2) + 1))).bind fun q_34 => ((f_X4_bowNumber ((q_20 - 48)) 1).bind fun q_35 => ((f_X0_addBow vp0_bows vp0_numbers vp0_pauses q_35 ((q_34 - 48))).bind fun q_36 => (f_X2_addBowsTo_L2 fu vh_length vh_characters q_36.1 q_36.2.1 q_36.2.2 (((x2 + 2) + 2)))))) else ((f_X4_bowNumber ((q_20 - 48)) 1).bind fun q_32 => ((f_X0_addBow vp0_bows vp0_numbers vp0_pauses q_32 0).bind fun q_33 => (f_X2_addBowsTo_L2 fu vh_length vh_characters q_33.1 q_33.2.1 q_33.2.2 ((x2 + 2))))))) else ((f_X2_characterAt vh_length vh_characters ((x2 + 2))).bind fun q_23 => (if q_23 = 46 then ((f_X2_characterAt vh_length vh_characters (((x2 + 2) + 1))).bind fun q_27 => ((f_X4_bowNumber ((q_20 - 48)) 0).bind fun q_28 => ((f_X0_addBow vp0_bows vp0_numbers vp0_pauses q_28 ((q_27 - 48))).bind fun q_29 => (f_X2_addBowsTo_L2 fu vh_length vh_characters q_29.1 q_29.2.1 q_29.2.2 (((x2 + 2) + 2)))))) else ((f_X4_bowNumber ((q_20 - 48)) 0).bind fun q_25 => ((f_X0_addBow vp0_bows vp0_numbers vp0_pauses q_25 0).bind fun q_26 => (f_X2_addBowsTo_L2 fu vh_length vh_characters q_26.1 q_26.2.1 q_26.2.2 ((x2 + 2)))))))))))
set_option maxHeartbeats 4000000 in
set_option maxRecDepth 100000 in
theorem s_X2_addBowsTo_L2 (l : Launch) (g : bwG) (ah ah_characters ap0 ap0_settings ap0_eyes ap0_favours ap0_numbers ap0_pauses : Nat) (fu : Nat) : ∀ (vh_length : Int32) (vh_characters : Nat → Int32) (vp0_bows : Int32) (vp0_given : Int32) (vp0_taken : Int32) (vp0_numbers : Nat → Int32) (vp0_pauses : Nat → Int32) (x2 : Int32) (res : (Int32) × (Nat → Int32) × (Nat → Int32)), f_X2_addBowsTo_L2 fu vh_length vh_characters vp0_bows vp0_numbers vp0_pauses x2 = some res → bwR l g cX2_addBowsTo 6 RX2 "addBowsTo" none ({ frames := 1, cells := 0, slots := 0, locals := 22 } : Room) bwT (bwZ g (fun r w => r = none ∧ w = [(ah, .inr (2, [.ref ah_characters, .int vh_length])), (ah_characters, .inl (g.2.2.1, 60, .inl vh_characters)), (ap0, .inr (0, [.ref ap0_settings, .ref ap0_eyes, .ref ap0_favours, .ref ap0_numbers, .ref ap0_pauses, .int res.1, .int vp0_given, .int vp0_taken])), (ap0_numbers, .inl (g.2.1, 24, .inl res.2.1)), (ap0_pauses, .inl (g.2.1, 24, .inl res.2.2))]) 0 0) 2 [(0, .ref ah), (1, .ref ap0), (2, .int x2)] [] ([(ah, .inr (2, [.ref ah_characters, .int vh_length])), (ah_characters, .inl (g.2.2.1, 60, .inl vh_characters)), (ap0, .inr (0, [.ref ap0_settings, .ref ap0_eyes, .ref ap0_favours, .ref ap0_numbers, .ref ap0_pauses, .int vp0_bows, .int vp0_given, .int vp0_taken])), (ap0_numbers, .inl (g.2.1, 24, .inl vp0_numbers)), (ap0_pauses, .inl (g.2.1, 24, .inl vp0_pauses))]) 0 0 := by
  induction fu with
  | zero => intro vh_length vh_characters vp0_bows vp0_given vp0_taken vp0_numbers vp0_pauses x2 res hf; exact absurd hf (by intro h; cases h)
  | succ fu ih =>
    intro vh_length vh_characters vp0_bows vp0_given vp0_taken vp0_numbers vp0_pauses x2 res hf
    rw [f_X2_addBowsTo_L2] at hf
    refine bw_iload_n 2 dX2_addBowsTo_2 rfl rfl ?_
    refine bw_aload_n 0 dX2_addBowsTo_3 rfl rfl ?_
    refine bw_gf bkX2 0 1 (by decide) fl_X2_15 rfl rfl dX2_addBowsTo_4 ?_
    refine bw_icmp_ge 84 dX2_addBowsTo_7 (by decide) (fun c_19 => ?_) (fun c_19 => ?_)
    · have hf := bw_pos c_19 hf
      cases Option.some.inj hf
      exact bw_vret rfl (Nat.le_of_ble_eq_true rfl) (Nat.le_of_ble_eq_true rfl) dX2_addBowsTo_84 ⟨rfl, rfl⟩
    · have hf := bw_neg c_19 hf
      refine bw_aload_n 0 dX2_addBowsTo_10 rfl rfl ?_
      refine bw_iload_n 2 dX2_addBowsTo_11 rfl rfl ?_
      obtain ⟨q_20, hc_20, hf⟩ := bw_bind hf
      refine bw_callV [.int x2] [] [(ap0, .inr (0, [.ref ap0_settings, .ref ap0_eyes, .ref ap0_favours, .ref ap0_numbers, .ref ap0_pauses, .int vp0_bows, .int vp0_given, .int vp0_taken])), (ap0_numbers, .inl (g.2.1, 24, .inl vp0_numbers)), (ap0_pauses, .inl (g.2.1, 24, .inl vp0_pauses))] 0 2 (s_X2_characterAt l g ah ah_characters vh_length vh_characters x2 _ hc_20) rfl co_X2_characterAt ini_X2 ml_X2_19 im_X2_characterAt se_X2_characterAt ar_X2_characterAt ⟨Nat.le_of_ble_eq_true rfl, Nat.le_of_ble_eq_true rfl⟩ ⟨Nat.le_of_ble_eq_true rfl, Nat.le_of_ble_eq_true rfl⟩ rfl rfl (bw_pick1 5 [0, 1, 2, 3, 4] rfl rfl (by decide)) (Nat.le_of_ble_eq_true rfl) dX2_addBowsTo_12 (fun r w1 hq => ?_)
      obtain ⟨rfl, rfl⟩ := hq
      refine bw_perm (ws1 := [(ah, .inr (2, [.ref ah_characters, .int vh_length])), (ah_characters, .inl (g.2.2.1, 60, .inl vh_characters)), (ap0, .inr (0, [.ref ap0_settings, .ref ap0_eyes, .ref ap0_favours, .ref ap0_numbers, .ref ap0_pauses, .int vp0_bows, .int vp0_given, .int vp0_taken])), (ap0_numbers, .inl (g.2.1, 24, .inl vp0_numbers)), (ap0_pauses, .inl (g.2.1, 24, .inl vp0_pauses))]) (bw_pick1 5 [3, 4, 0, 1, 2] rfl rfl (by decide)) ?_
      refine bw_st (st1 := [.int q_20]) rfl ?_
      refine bw_bipush 48 dX2_addBowsTo_15 (by decide) ?_
      refine bw_isub dX2_addBowsTo_17 ?_
      refine bw_istore_n [(3, .int ((q_20 - 48))), (0, .ref ah), (1, .ref ap0), (2, .int x2)] dX2_addBowsTo_18 rfl (by decide) rfl ?_
      refine bw_aload_n 1 dX2_addBowsTo_19 rfl rfl ?_
      refine bw_iload_n 3 dX2_addBowsTo_20 rfl rfl ?_
      refine bw_iconst 1 dX2_addBowsTo_21 (by decide) ?_
      refine bw_iadd dX2_addBowsTo_22 ?_
      obtain ⟨q_21, hc_21, hf⟩ := bw_bind hf
      refine bw_callV [.int ((x2 + 1))] [] [(ap0, .inr (0, [.ref ap0_settings, .ref ap0_eyes, .ref ap0_favours, .ref ap0_numbers, .ref ap0_pauses, .int vp0_bows, .int vp0_given, .int vp0_taken])), (ap0_numbers, .inl (g.2.1, 24, .inl vp0_numbers)), (ap0_pauses, .inl (g.2.1, 24, .inl vp0_pauses))] 0 2 (s_X2_characterAt l g ah ah_characters vh_length vh_characters ((x2 + 1)) _ hc_21) rfl co_X2_characterAt ini_X2 ml_X2_19 im_X2_characterAt se_X2_characterAt ar_X2_characterAt ⟨Nat.le_of_ble_eq_true rfl, Nat.le_of_ble_eq_true rfl⟩ ⟨Nat.le_of_ble_eq_true rfl, Nat.le_of_ble_eq_true rfl⟩ rfl rfl (bw_pick1 5 [0, 1, 2, 3, 4] rfl rfl (by decide)) (Nat.le_of_ble_eq_true rfl) dX2_addBowsTo_23 (fun r w1 hq => ?_)
      obtain ⟨rfl, rfl⟩ := hq
      refine bw_perm (ws1 := [(ah, .inr (2, [.ref ah_characters, .int vh_length])), (ah_characters, .inl (g.2.2.1, 60, .inl vh_characters)), (ap0, .inr (0, [.ref ap0_settings, .ref ap0_eyes, .ref ap0_favours, .ref ap0_numbers, .ref ap0_pauses, .int vp0_bows, .int vp0_given, .int vp0_taken])), (ap0_numbers, .inl (g.2.1, 24, .inl vp0_numbers)), (ap0_pauses, .inl (g.2.1, 24, .inl vp0_pauses))]) (bw_pick1 5 [3, 4, 0, 1, 2] rfl rfl (by decide)) ?_
      refine bw_st (st1 := [.int q_21]) rfl ?_
      refine bw_bipush 114 dX2_addBowsTo_26 (by decide) ?_
      refine bw_icmp_ne 35 dX2_addBowsTo_28 (by decide) (fun c_22 => ?_) (fun c_22 => ?_)
      · have hf := bw_neg c_22 hf
        refine bw_iconst 0 dX2_addBowsTo_35 (by decide) ?_
        refine bw_istore [(4, .int 0), (3, .int ((q_20 - 48))), (0, .ref ah), (1, .ref ap0), (2, .int x2)] dX2_addBowsTo_36 (by decide) rfl ?_
        refine bw_iinc 4 (x2 + 2) [(2, .int ((x2 + 2))), (4, .int 0), (3, .int ((q_20 - 48))), (0, .ref ah), (1, .ref ap0)] dX2_addBowsTo_38 rfl rfl (by decide) rfl ?_
        refine bw_iconst 0 dX2_addBowsTo_41 (by decide) ?_
        refine bw_istore [(5, .int 0), (2, .int ((x2 + 2))), (4, .int 0), (3, .int ((q_20 - 48))), (0, .ref ah), (1, .ref ap0)] dX2_addBowsTo_42 (by decide) rfl ?_
        refine bw_aload_n 4 dX2_addBowsTo_44 rfl rfl ?_
        refine bw_iload_n 1 dX2_addBowsTo_45 rfl rfl ?_
        obtain ⟨q_23, hc_23, hf⟩ := bw_bind hf
        refine bw_callV [.int ((x2 + 2))] [] [(ap0, .inr (0, [.ref ap0_settings, .ref ap0_eyes, .ref ap0_favours, .ref ap0_numbers, .ref ap0_pauses, .int vp0_bows, .int vp0_given, .int vp0_taken])), (ap0_numbers, .inl (g.2.1, 24, .inl vp0_numbers)), (ap0_pauses, .inl (g.2.1, 24, .inl vp0_pauses))] 0 2 (s_X2_characterAt l g ah ah_characters vh_length vh_characters ((x2 + 2)) _ hc_23) rfl co_X2_characterAt ini_X2 ml_X2_19 im_X2_characterAt se_X2_characterAt ar_X2_characterAt ⟨Nat.le_of_ble_eq_true rfl, Nat.le_of_ble_eq_true rfl⟩ ⟨Nat.le_of_ble_eq_true rfl, Nat.le_of_ble_eq_true rfl⟩ rfl rfl (bw_pick1 5 [0, 1, 2, 3, 4] rfl rfl (by decide)) (Nat.le_of_ble_eq_true rfl) dX2_addBowsTo_46 (fun r w1 hq => ?_)
        obtain ⟨rfl, rfl⟩ := hq
        refine bw_perm (ws1 := [(ah, .inr (2, [.ref ah_characters, .int vh_length])), (ah_characters, .inl (g.2.2.1, 60, .inl vh_characters)), (ap0, .inr (0, [.ref ap0_settings, .ref ap0_eyes, .ref ap0_favours, .ref ap0_numbers, .ref ap0_pauses, .int vp0_bows, .int vp0_given, .int vp0_taken])), (ap0_numbers, .inl (g.2.1, 24, .inl vp0_numbers)), (ap0_pauses, .inl (g.2.1, 24, .inl vp0_pauses))]) (bw_pick1 5 [3, 4, 0, 1, 2] rfl rfl (by decide)) ?_
        refine bw_st (st1 := [.int q_23]) rfl ?_
        refine bw_bipush 46 dX2_addBowsTo_49 (by decide) ?_
        refine bw_icmp_ne 69 dX2_addBowsTo_51 (by decide) (fun c_24 => ?_) (fun c_24 => ?_)
        · have hf := bw_neg c_24 hf
          refine bw_aload_n 5 dX2_addBowsTo_69 rfl rfl ?_
          refine bw_iload_n 3 dX2_addBowsTo_70 rfl rfl ?_
          refine bw_iload 2 dX2_addBowsTo_71 rfl ?_
          obtain ⟨q_25, hc_25, hf⟩ := bw_bind hf
          refine bw_callSN "BowSpeeches" [.int ((q_20 - 48)), .int 0] [.ref ap0] [(ah, .inr (2, [.ref ah_characters, .int vh_length])), (ah_characters, .inl (g.2.2.1, 60, .inl vh_characters)), (ap0, .inr (0, [.ref ap0_settings, .ref ap0_eyes, .ref ap0_favours, .ref ap0_numbers, .ref ap0_pauses, .int vp0_bows, .int vp0_given, .int vp0_taken])), (ap0_numbers, .inl (g.2.1, 24, .inl vp0_numbers)), (ap0_pauses, .inl (g.2.1, 24, .inl vp0_pauses))] (s_X4_bowNumber l g   ((q_20 - 48)) 0 _ hc_25) rfl co_X4_bowNumber ini_X4 mn_X2_28 st_X4_bowNumber ar_X4_bowNumber ⟨Nat.le_of_ble_eq_true rfl, Nat.le_of_ble_eq_true rfl⟩ ⟨Nat.le_of_ble_eq_true rfl, Nat.le_of_ble_eq_true rfl⟩ (bw_pick1 5 [0, 1, 2, 3, 4] rfl rfl (by decide)) (Nat.le_of_ble_eq_true rfl) dX2_addBowsTo_73 (fun r w1 hq => ?_)
          obtain ⟨rfl, rfl⟩ := hq
          refine bw_perm (ws1 := [(ah, .inr (2, [.ref ah_characters, .int vh_length])), (ah_characters, .inl (g.2.2.1, 60, .inl vh_characters)), (ap0, .inr (0, [.ref ap0_settings, .ref ap0_eyes, .ref ap0_favours, .ref ap0_numbers, .ref ap0_pauses, .int vp0_bows, .int vp0_given, .int vp0_taken])), (ap0_numbers, .inl (g.2.1, 24, .inl vp0_numbers)), (ap0_pauses, .inl (g.2.1, 24, .inl vp0_pauses))]) (bw_pick1 5 [0, 1, 2, 3, 4] rfl rfl (by decide)) ?_
          refine bw_st (st1 := [.int q_25, .ref ap0]) rfl ?_
          refine bw_iload 0 dX2_addBowsTo_76 rfl ?_
          obtain ⟨q_26, hc_26, hf⟩ := bw_bind hf
          refine bw_callV [.int q_25, .int 0] [] [(ah, .inr (2, [.ref ah_characters, .int vh_length])), (ah_characters, .inl (g.2.2.1, 60, .inl vh_characters))] 0 0 (s_X0_addBow l g ap0 ap0_settings ap0_eyes ap0_favours ap0_numbers ap0_pauses vp0_bows vp0_given vp0_taken vp0_numbers vp0_pauses q_25 0 _ hc_26) rfl co_X0_addBow ini_X0 ml_X2_32 im_X0_addBow se_X0_addBow ar_X0_addBow ⟨Nat.le_of_ble_eq_true rfl, Nat.le_of_ble_eq_true rfl⟩ ⟨Nat.le_of_ble_eq_true rfl, Nat.le_of_ble_eq_true rfl⟩ rfl rfl (bw_pick1 5 [2, 3, 4, 0, 1] rfl rfl (by decide)) (Nat.le_of_ble_eq_true rfl) dX2_addBowsTo_78 (fun r w1 hq => ?_)
          obtain ⟨rfl, rfl⟩ := hq
          refine bw_perm (ws1 := [(ah, .inr (2, [.ref ah_characters, .int vh_length])), (ah_characters, .inl (g.2.2.1, 60, .inl vh_characters)), (ap0, .inr (0, [.ref ap0_settings, .ref ap0_eyes, .ref ap0_favours, .ref ap0_numbers, .ref ap0_pauses, .int q_26.1, .int vp0_given, .int vp0_taken])), (ap0_numbers, .inl (g.2.1, 24, .inl q_26.2.1)), (ap0_pauses, .inl (g.2.1, 24, .inl q_26.2.2))]) (bw_pick1 5 [0, 1, 2, 3, 4] rfl rfl (by decide)) ?_
          refine bw_st (st1 := []) rfl ?_
          refine bw_goto 2 dX2_addBowsTo_81 (by decide) ?_
          refine bw_lv [4, 5, 1] rfl ?_
          exact ih vh_length vh_characters q_26.1 vp0_given vp0_taken q_26.2.1 q_26.2.2 ((x2 + 2)) _ hf
        · have hf := bw_pos c_24 hf
          refine bw_aload_n 4 dX2_addBowsTo_54 rfl rfl ?_
          refine bw_iload_n 1 dX2_addBowsTo_55 rfl rfl ?_
          refine bw_iconst 1 dX2_addBowsTo_56 (by decide) ?_
          refine bw_iadd dX2_addBowsTo_57 ?_
          obtain ⟨q_27, hc_27, hf⟩ := bw_bind hf
          refine bw_callV [.int (((x2 + 2) + 1))] [] [(ap0, .inr (0, [.ref ap0_settings, .ref ap0_eyes, .ref ap0_favours, .ref ap0_numbers, .ref ap0_pauses, .int vp0_bows, .int vp0_given, .int vp0_taken])), (ap0_numbers, .inl (g.2.1, 24, .inl vp0_numbers)), (ap0_pauses, .inl (g.2.1, 24, .inl vp0_pauses))] 0 2 (s_X2_characterAt l g ah ah_characters vh_length vh_characters (((x2 + 2) + 1)) _ hc_27) rfl co_X2_characterAt ini_X2 ml_X2_19 im_X2_characterAt se_X2_characterAt ar_X2_characterAt ⟨Nat.le_of_ble_eq_true rfl, Nat.le_of_ble_eq_true rfl⟩ ⟨Nat.le_of_ble_eq_true rfl, Nat.le_of_ble_eq_true rfl⟩ rfl rfl (bw_pick1 5 [0, 1, 2, 3, 4] rfl rfl (by decide)) (Nat.le_of_ble_eq_true rfl) dX2_addBowsTo_58 (fun r w1 hq => ?_)
          obtain ⟨rfl, rfl⟩ := hq
          refine bw_perm (ws1 := [(ah, .inr (2, [.ref ah_characters, .int vh_length])), (ah_characters, .inl (g.2.2.1, 60, .inl vh_characters)), (ap0, .inr (0, [.ref ap0_settings, .ref ap0_eyes, .ref ap0_favours, .ref ap0_numbers, .ref ap0_pauses, .int vp0_bows, .int vp0_given, .int vp0_taken])), (ap0_numbers, .inl (g.2.1, 24, .inl vp0_numbers)), (ap0_pauses, .inl (g.2.1, 24, .inl vp0_pauses))]) (bw_pick1 5 [3, 4, 0, 1, 2] rfl rfl (by decide)) ?_
          refine bw_st (st1 := [.int q_27]) rfl ?_
          refine bw_bipush 48 dX2_addBowsTo_61 (by decide) ?_
          refine bw_isub dX2_addBowsTo_63 ?_
          refine bw_istore [(5, .int ((q_27 - 48))), (2, .int ((x2 + 2))), (4, .int 0), (3, .int ((q_20 - 48))), (0, .ref ah), (1, .ref ap0)] dX2_addBowsTo_64 (by decide) rfl ?_
          refine bw_iinc 1 ((x2 + 2) + 2) [(2, .int (((x2 + 2) + 2))), (5, .int ((q_27 - 48))), (4, .int 0), (3, .int ((q_20 - 48))), (0, .ref ah), (1, .ref ap0)] dX2_addBowsTo_66 rfl rfl (by decide) rfl ?_
          refine bw_aload_n 5 dX2_addBowsTo_69 rfl rfl ?_
          refine bw_iload_n 3 dX2_addBowsTo_70 rfl rfl ?_
          refine bw_iload 2 dX2_addBowsTo_71 rfl ?_
          obtain ⟨q_28, hc_28, hf⟩ := bw_bind hf
          refine bw_callSN "BowSpeeches" [.int ((q_20 - 48)), .int 0] [.ref ap0] [(ah, .inr (2, [.ref ah_characters, .int vh_length])), (ah_characters, .inl (g.2.2.1, 60, .inl vh_characters)), (ap0, .inr (0, [.ref ap0_settings, .ref ap0_eyes, .ref ap0_favours, .ref ap0_numbers, .ref ap0_pauses, .int vp0_bows, .int vp0_given, .int vp0_taken])), (ap0_numbers, .inl (g.2.1, 24, .inl vp0_numbers)), (ap0_pauses, .inl (g.2.1, 24, .inl vp0_pauses))] (s_X4_bowNumber l g   ((q_20 - 48)) 0 _ hc_28) rfl co_X4_bowNumber ini_X4 mn_X2_28 st_X4_bowNumber ar_X4_bowNumber ⟨Nat.le_of_ble_eq_true rfl, Nat.le_of_ble_eq_true rfl⟩ ⟨Nat.le_of_ble_eq_true rfl, Nat.le_of_ble_eq_true rfl⟩ (bw_pick1 5 [0, 1, 2, 3, 4] rfl rfl (by decide)) (Nat.le_of_ble_eq_true rfl) dX2_addBowsTo_73 (fun r w1 hq => ?_)
          obtain ⟨rfl, rfl⟩ := hq
          refine bw_perm (ws1 := [(ah, .inr (2, [.ref ah_characters, .int vh_length])), (ah_characters, .inl (g.2.2.1, 60, .inl vh_characters)), (ap0, .inr (0, [.ref ap0_settings, .ref ap0_eyes, .ref ap0_favours, .ref ap0_numbers, .ref ap0_pauses, .int vp0_bows, .int vp0_given, .int vp0_taken])), (ap0_numbers, .inl (g.2.1, 24, .inl vp0_numbers)), (ap0_pauses, .inl (g.2.1, 24, .inl vp0_pauses))]) (bw_pick1 5 [0, 1, 2, 3, 4] rfl rfl (by decide)) ?_
          refine bw_st (st1 := [.int q_28, .ref ap0]) rfl ?_
          refine bw_iload 1 dX2_addBowsTo_76 rfl ?_
          obtain ⟨q_29, hc_29, hf⟩ := bw_bind hf
          refine bw_callV [.int q_28, .int ((q_27 - 48))] [] [(ah, .inr (2, [.ref ah_characters, .int vh_length])), (ah_characters, .inl (g.2.2.1, 60, .inl vh_characters))] 0 0 (s_X0_addBow l g ap0 ap0_settings ap0_eyes ap0_favours ap0_numbers ap0_pauses vp0_bows vp0_given vp0_taken vp0_numbers vp0_pauses q_28 ((q_27 - 48)) _ hc_29) rfl co_X0_addBow ini_X0 ml_X2_32 im_X0_addBow se_X0_addBow ar_X0_addBow ⟨Nat.le_of_ble_eq_true rfl, Nat.le_of_ble_eq_true rfl⟩ ⟨Nat.le_of_ble_eq_true rfl, Nat.le_of_ble_eq_true rfl⟩ rfl rfl (bw_pick1 5 [2, 3, 4, 0, 1] rfl rfl (by decide)) (Nat.le_of_ble_eq_true rfl) dX2_addBowsTo_78 (fun r w1 hq => ?_)
          obtain ⟨rfl, rfl⟩ := hq
          refine bw_perm (ws1 := [(ah, .inr (2, [.ref ah_characters, .int vh_length])), (ah_characters, .inl (g.2.2.1, 60, .inl vh_characters)), (ap0, .inr (0, [.ref ap0_settings, .ref ap0_eyes, .ref ap0_favours, .ref ap0_numbers, .ref ap0_pauses, .int q_29.1, .int vp0_given, .int vp0_taken])), (ap0_numbers, .inl (g.2.1, 24, .inl q_29.2.1)), (ap0_pauses, .inl (g.2.1, 24, .inl q_29.2.2))]) (bw_pick1 5 [0, 1, 2, 3, 4] rfl rfl (by decide)) ?_
          refine bw_st (st1 := []) rfl ?_
          refine bw_goto 2 dX2_addBowsTo_81 (by decide) ?_
          refine bw_lv [4, 5, 0] rfl ?_
          exact ih vh_length vh_characters q_29.1 vp0_given vp0_taken q_29.2.1 q_29.2.2 (((x2 + 2) + 2)) _ hf
      · have hf := bw_pos c_22 hf
        refine bw_iconst 1 dX2_addBowsTo_31 (by decide) ?_
        refine bw_goto 36 dX2_addBowsTo_32 (by decide) ?_
        refine bw_istore [(4, .int 1), (3, .int ((q_20 - 48))), (0, .ref ah), (1, .ref ap0), (2, .int x2)] dX2_addBowsTo_36 (by decide) rfl ?_
        refine bw_iinc 4 (x2 + 2) [(2, .int ((x2 + 2))), (4, .int 1), (3, .int ((q_20 - 48))), (0, .ref ah), (1, .ref ap0)] dX2_addBowsTo_38 rfl rfl (by decide) rfl ?_
        refine bw_iconst 0 dX2_addBowsTo_41 (by decide) ?_
        refine bw_istore [(5, .int 0), (2, .int ((x2 + 2))), (4, .int 1), (3, .int ((q_20 - 48))), (0, .ref ah), (1, .ref ap0)] dX2_addBowsTo_42 (by decide) rfl ?_
        refine bw_aload_n 4 dX2_addBowsTo_44 rfl rfl ?_
        refine bw_iload_n 1 dX2_addBowsTo_45 rfl rfl ?_
        obtain ⟨q_30, hc_30, hf⟩ := bw_bind hf
        refine bw_callV [.int ((x2 + 2))] [] [(ap0, .inr (0, [.ref ap0_settings, .ref ap0_eyes, .ref ap0_favours, .ref ap0_numbers, .ref ap0_pauses, .int vp0_bows, .int vp0_given, .int vp0_taken])), (ap0_numbers, .inl (g.2.1, 24, .inl vp0_numbers)), (ap0_pauses, .inl (g.2.1, 24, .inl vp0_pauses))] 0 2 (s_X2_characterAt l g ah ah_characters vh_length vh_characters ((x2 + 2)) _ hc_30) rfl co_X2_characterAt ini_X2 ml_X2_19 im_X2_characterAt se_X2_characterAt ar_X2_characterAt ⟨Nat.le_of_ble_eq_true rfl, Nat.le_of_ble_eq_true rfl⟩ ⟨Nat.le_of_ble_eq_true rfl, Nat.le_of_ble_eq_true rfl⟩ rfl rfl (bw_pick1 5 [0, 1, 2, 3, 4] rfl rfl (by decide)) (Nat.le_of_ble_eq_true rfl) dX2_addBowsTo_46 (fun r w1 hq => ?_)
        obtain ⟨rfl, rfl⟩ := hq
        refine bw_perm (ws1 := [(ah, .inr (2, [.ref ah_characters, .int vh_length])), (ah_characters, .inl (g.2.2.1, 60, .inl vh_characters)), (ap0, .inr (0, [.ref ap0_settings, .ref ap0_eyes, .ref ap0_favours, .ref ap0_numbers, .ref ap0_pauses, .int vp0_bows, .int vp0_given, .int vp0_taken])), (ap0_numbers, .inl (g.2.1, 24, .inl vp0_numbers)), (ap0_pauses, .inl (g.2.1, 24, .inl vp0_pauses))]) (bw_pick1 5 [3, 4, 0, 1, 2] rfl rfl (by decide)) ?_
        refine bw_st (st1 := [.int q_30]) rfl ?_
        refine bw_bipush 46 dX2_addBowsTo_49 (by decide) ?_
        refine bw_icmp_ne 69 dX2_addBowsTo_51 (by decide) (fun c_31 => ?_) (fun c_31 => ?_)
        · have hf := bw_neg c_31 hf
          refine bw_aload_n 5 dX2_addBowsTo_69 rfl rfl ?_
          refine bw_iload_n 3 dX2_addBowsTo_70 rfl rfl ?_
          refine bw_iload 2 dX2_addBowsTo_71 rfl ?_
          obtain ⟨q_32, hc_32, hf⟩ := bw_bind hf
          refine bw_callSN "BowSpeeches" [.int ((q_20 - 48)), .int 1] [.ref ap0] [(ah, .inr (2, [.ref ah_characters, .int vh_length])), (ah_characters, .inl (g.2.2.1, 60, .inl vh_characters)), (ap0, .inr (0, [.ref ap0_settings, .ref ap0_eyes, .ref ap0_favours, .ref ap0_numbers, .ref ap0_pauses, .int vp0_bows, .int vp0_given, .int vp0_taken])), (ap0_numbers, .inl (g.2.1, 24, .inl vp0_numbers)), (ap0_pauses, .inl (g.2.1, 24, .inl vp0_pauses))] (s_X4_bowNumber l g   ((q_20 - 48)) 1 _ hc_32) rfl co_X4_bowNumber ini_X4 mn_X2_28 st_X4_bowNumber ar_X4_bowNumber ⟨Nat.le_of_ble_eq_true rfl, Nat.le_of_ble_eq_true rfl⟩ ⟨Nat.le_of_ble_eq_true rfl, Nat.le_of_ble_eq_true rfl⟩ (bw_pick1 5 [0, 1, 2, 3, 4] rfl rfl (by decide)) (Nat.le_of_ble_eq_true rfl) dX2_addBowsTo_73 (fun r w1 hq => ?_)
          obtain ⟨rfl, rfl⟩ := hq
          refine bw_perm (ws1 := [(ah, .inr (2, [.ref ah_characters, .int vh_length])), (ah_characters, .inl (g.2.2.1, 60, .inl vh_characters)), (ap0, .inr (0, [.ref ap0_settings, .ref ap0_eyes, .ref ap0_favours, .ref ap0_numbers, .ref ap0_pauses, .int vp0_bows, .int vp0_given, .int vp0_taken])), (ap0_numbers, .inl (g.2.1, 24, .inl vp0_numbers)), (ap0_pauses, .inl (g.2.1, 24, .inl vp0_pauses))]) (bw_pick1 5 [0, 1, 2, 3, 4] rfl rfl (by decide)) ?_
          refine bw_st (st1 := [.int q_32, .ref ap0]) rfl ?_
          refine bw_iload 0 dX2_addBowsTo_76 rfl ?_
          obtain ⟨q_33, hc_33, hf⟩ := bw_bind hf
          refine bw_callV [.int q_32, .int 0] [] [(ah, .inr (2, [.ref ah_characters, .int vh_length])), (ah_characters, .inl (g.2.2.1, 60, .inl vh_characters))] 0 0 (s_X0_addBow l g ap0 ap0_settings ap0_eyes ap0_favours ap0_numbers ap0_pauses vp0_bows vp0_given vp0_taken vp0_numbers vp0_pauses q_32 0 _ hc_33) rfl co_X0_addBow ini_X0 ml_X2_32 im_X0_addBow se_X0_addBow ar_X0_addBow ⟨Nat.le_of_ble_eq_true rfl, Nat.le_of_ble_eq_true rfl⟩ ⟨Nat.le_of_ble_eq_true rfl, Nat.le_of_ble_eq_true rfl⟩ rfl rfl (bw_pick1 5 [2, 3, 4, 0, 1] rfl rfl (by decide)) (Nat.le_of_ble_eq_true rfl) dX2_addBowsTo_78 (fun r w1 hq => ?_)
          obtain ⟨rfl, rfl⟩ := hq
          refine bw_perm (ws1 := [(ah, .inr (2, [.ref ah_characters, .int vh_length])), (ah_characters, .inl (g.2.2.1, 60, .inl vh_characters)), (ap0, .inr (0, [.ref ap0_settings, .ref ap0_eyes, .ref ap0_favours, .ref ap0_numbers, .ref ap0_pauses, .int q_33.1, .int vp0_given, .int vp0_taken])), (ap0_numbers, .inl (g.2.1, 24, .inl q_33.2.1)), (ap0_pauses, .inl (g.2.1, 24, .inl q_33.2.2))]) (bw_pick1 5 [0, 1, 2, 3, 4] rfl rfl (by decide)) ?_
          refine bw_st (st1 := []) rfl ?_
          refine bw_goto 2 dX2_addBowsTo_81 (by decide) ?_
          refine bw_lv [4, 5, 1] rfl ?_
          exact ih vh_length vh_characters q_33.1 vp0_given vp0_taken q_33.2.1 q_33.2.2 ((x2 + 2)) _ hf
        · have hf := bw_pos c_31 hf
          refine bw_aload_n 4 dX2_addBowsTo_54 rfl rfl ?_
          refine bw_iload_n 1 dX2_addBowsTo_55 rfl rfl ?_
          refine bw_iconst 1 dX2_addBowsTo_56 (by decide) ?_
          refine bw_iadd dX2_addBowsTo_57 ?_
          obtain ⟨q_34, hc_34, hf⟩ := bw_bind hf
          refine bw_callV [.int (((x2 + 2) + 1))] [] [(ap0, .inr (0, [.ref ap0_settings, .ref ap0_eyes, .ref ap0_favours, .ref ap0_numbers, .ref ap0_pauses, .int vp0_bows, .int vp0_given, .int vp0_taken])), (ap0_numbers, .inl (g.2.1, 24, .inl vp0_numbers)), (ap0_pauses, .inl (g.2.1, 24, .inl vp0_pauses))] 0 2 (s_X2_characterAt l g ah ah_characters vh_length vh_characters (((x2 + 2) + 1)) _ hc_34) rfl co_X2_characterAt ini_X2 ml_X2_19 im_X2_characterAt se_X2_characterAt ar_X2_characterAt ⟨Nat.le_of_ble_eq_true rfl, Nat.le_of_ble_eq_true rfl⟩ ⟨Nat.le_of_ble_eq_true rfl, Nat.le_of_ble_eq_true rfl⟩ rfl rfl (bw_pick1 5 [0, 1, 2, 3, 4] rfl rfl (by decide)) (Nat.le_of_ble_eq_true rfl) dX2_addBowsTo_58 (fun r w1 hq => ?_)
          obtain ⟨rfl, rfl⟩ := hq
          refine bw_perm (ws1 := [(ah, .inr (2, [.ref ah_characters, .int vh_length])), (ah_characters, .inl (g.2.2.1, 60, .inl vh_characters)), (ap0, .inr (0, [.ref ap0_settings, .ref ap0_eyes, .ref ap0_favours, .ref ap0_numbers, .ref ap0_pauses, .int vp0_bows, .int vp0_given, .int vp0_taken])), (ap0_numbers, .inl (g.2.1, 24, .inl vp0_numbers)), (ap0_pauses, .inl (g.2.1, 24, .inl vp0_pauses))]) (bw_pick1 5 [3, 4, 0, 1, 2] rfl rfl (by decide)) ?_
          refine bw_st (st1 := [.int q_34]) rfl ?_
          refine bw_bipush 48 dX2_addBowsTo_61 (by decide) ?_
          refine bw_isub dX2_addBowsTo_63 ?_
          refine bw_istore [(5, .int ((q_34 - 48))), (2, .int ((x2 + 2))), (4, .int 1), (3, .int ((q_20 - 48))), (0, .ref ah), (1, .ref ap0)] dX2_addBowsTo_64 (by decide) rfl ?_
          refine bw_iinc 1 ((x2 + 2) + 2) [(2, .int (((x2 + 2) + 2))), (5, .int ((q_34 - 48))), (4, .int 1), (3, .int ((q_20 - 48))), (0, .ref ah), (1, .ref ap0)] dX2_addBowsTo_66 rfl rfl (by decide) rfl ?_
          refine bw_aload_n 5 dX2_addBowsTo_69 rfl rfl ?_
          refine bw_iload_n 3 dX2_addBowsTo_70 rfl rfl ?_
          refine bw_iload 2 dX2_addBowsTo_71 rfl ?_
          obtain ⟨q_35, hc_35, hf⟩ := bw_bind hf
          refine bw_callSN "BowSpeeches" [.int ((q_20 - 48)), .int 1] [.ref ap0] [(ah, .inr (2, [.ref ah_characters, .int vh_length])), (ah_characters, .inl (g.2.2.1, 60, .inl vh_characters)), (ap0, .inr (0, [.ref ap0_settings, .ref ap0_eyes, .ref ap0_favours, .ref ap0_numbers, .ref ap0_pauses, .int vp0_bows, .int vp0_given, .int vp0_taken])), (ap0_numbers, .inl (g.2.1, 24, .inl vp0_numbers)), (ap0_pauses, .inl (g.2.1, 24, .inl vp0_pauses))] (s_X4_bowNumber l g   ((q_20 - 48)) 1 _ hc_35) rfl co_X4_bowNumber ini_X4 mn_X2_28 st_X4_bowNumber ar_X4_bowNumber ⟨Nat.le_of_ble_eq_true rfl, Nat.le_of_ble_eq_true rfl⟩ ⟨Nat.le_of_ble_eq_true rfl, Nat.le_of_ble_eq_true rfl⟩ (bw_pick1 5 [0, 1, 2, 3, 4] rfl rfl (by decide)) (Nat.le_of_ble_eq_true rfl) dX2_addBowsTo_73 (fun r w1 hq => ?_)
          obtain ⟨rfl, rfl⟩ := hq
          refine bw_perm (ws1 := [(ah, .inr (2, [.ref ah_characters, .int vh_length])), (ah_characters, .inl (g.2.2.1, 60, .inl vh_characters)), (ap0, .inr (0, [.ref ap0_settings, .ref ap0_eyes, .ref ap0_favours, .ref ap0_numbers, .ref ap0_pauses, .int vp0_bows, .int vp0_given, .int vp0_taken])), (ap0_numbers, .inl (g.2.1, 24, .inl vp0_numbers)), (ap0_pauses, .inl (g.2.1, 24, .inl vp0_pauses))]) (bw_pick1 5 [0, 1, 2, 3, 4] rfl rfl (by decide)) ?_
          refine bw_st (st1 := [.int q_35, .ref ap0]) rfl ?_
          refine bw_iload 1 dX2_addBowsTo_76 rfl ?_
          obtain ⟨q_36, hc_36, hf⟩ := bw_bind hf
          refine bw_callV [.int q_35, .int ((q_34 - 48))] [] [(ah, .inr (2, [.ref ah_characters, .int vh_length])), (ah_characters, .inl (g.2.2.1, 60, .inl vh_characters))] 0 0 (s_X0_addBow l g ap0 ap0_settings ap0_eyes ap0_favours ap0_numbers ap0_pauses vp0_bows vp0_given vp0_taken vp0_numbers vp0_pauses q_35 ((q_34 - 48)) _ hc_36) rfl co_X0_addBow ini_X0 ml_X2_32 im_X0_addBow se_X0_addBow ar_X0_addBow ⟨Nat.le_of_ble_eq_true rfl, Nat.le_of_ble_eq_true rfl⟩ ⟨Nat.le_of_ble_eq_true rfl, Nat.le_of_ble_eq_true rfl⟩ rfl rfl (bw_pick1 5 [2, 3, 4, 0, 1] rfl rfl (by decide)) (Nat.le_of_ble_eq_true rfl) dX2_addBowsTo_78 (fun r w1 hq => ?_)
          obtain ⟨rfl, rfl⟩ := hq
          refine bw_perm (ws1 := [(ah, .inr (2, [.ref ah_characters, .int vh_length])), (ah_characters, .inl (g.2.2.1, 60, .inl vh_characters)), (ap0, .inr (0, [.ref ap0_settings, .ref ap0_eyes, .ref ap0_favours, .ref ap0_numbers, .ref ap0_pauses, .int q_36.1, .int vp0_given, .int vp0_taken])), (ap0_numbers, .inl (g.2.1, 24, .inl q_36.2.1)), (ap0_pauses, .inl (g.2.1, 24, .inl q_36.2.2))]) (bw_pick1 5 [0, 1, 2, 3, 4] rfl rfl (by decide)) ?_
          refine bw_st (st1 := []) rfl ?_
          refine bw_goto 2 dX2_addBowsTo_81 (by decide) ?_
          refine bw_lv [4, 5, 0] rfl ?_
          exact ih vh_length vh_characters q_36.1 vp0_given vp0_taken q_36.2.1 q_36.2.2 (((x2 + 2) + 2)) _ hf
theorem ar_X2_addBowsTo : yX2_addBowsTo.cls ≠ "java/lang/invoke/MethodHandle" ∧ yX2_addBowsTo.cls ≠ "java/lang/invoke/VarHandle" ∧ (parseMethodDescriptor yX2_addBowsTo.desc).map (fun d => d.parameters.length) = some 1 := ⟨by decide, by decide, by decide +kernel⟩
def f_X2_addBowsTo (vh_length : Int32) (vh_characters : Nat → Int32) (vp0_bows : Int32) (vp0_numbers : Nat → Int32) (vp0_pauses : Nat → Int32)  : Option ((Int32) × (Nat → Int32) × (Nat → Int32)) := (f_X2_addBowsTo_L2 bw_F vh_length vh_characters vp0_bows vp0_numbers vp0_pauses 0)
set_option maxHeartbeats 4000000 in
set_option maxRecDepth 100000 in
theorem s_X2_addBowsTo (l : Launch) (g : bwG) (ah ah_characters ap0 ap0_settings ap0_eyes ap0_favours ap0_numbers ap0_pauses : Nat) (vh_length : Int32) (vh_characters : Nat → Int32) (vp0_bows : Int32) (vp0_given : Int32) (vp0_taken : Int32) (vp0_numbers : Nat → Int32) (vp0_pauses : Nat → Int32)  (res : (Int32) × (Nat → Int32) × (Nat → Int32)) (hf : f_X2_addBowsTo vh_length vh_characters vp0_bows vp0_numbers vp0_pauses  = some res) : bwS l g yX2_addBowsTo cX2_addBowsTo 6 none ({ frames := 1, cells := 0, slots := 0, locals := 22 } : Room) [.ref ah, .ref ap0] ([(ah, .inr (2, [.ref ah_characters, .int vh_length])), (ah_characters, .inl (g.2.2.1, 60, .inl vh_characters)), (ap0, .inr (0, [.ref ap0_settings, .ref ap0_eyes, .ref ap0_favours, .ref ap0_numbers, .ref ap0_pauses, .int vp0_bows, .int vp0_given, .int vp0_taken])), (ap0_numbers, .inl (g.2.1, 24, .inl vp0_numbers)), (ap0_pauses, .inl (g.2.1, 24, .inl vp0_pauses))]) (fun r w => r = none ∧ w = [(ah, .inr (2, [.ref ah_characters, .int vh_length])), (ah_characters, .inl (g.2.2.1, 60, .inl vh_characters)), (ap0, .inr (0, [.ref ap0_settings, .ref ap0_eyes, .ref ap0_favours, .ref ap0_numbers, .ref ap0_pauses, .int res.1, .int vp0_given, .int vp0_taken])), (ap0_numbers, .inl (g.2.1, 24, .inl res.2.1)), (ap0_pauses, .inl (g.2.1, 24, .inl res.2.2))]) := by
  refine bwS_of (by decide) (Nat.le_of_ble_eq_true rfl) ?_
  unfold f_X2_addBowsTo at hf
  show bwR l g cX2_addBowsTo 6 RX2 "addBowsTo" none ({ frames := 1, cells := 0, slots := 0, locals := 22 } : Room) bwT (bwZ g (fun r w => r = none ∧ w = [(ah, .inr (2, [.ref ah_characters, .int vh_length])), (ah_characters, .inl (g.2.2.1, 60, .inl vh_characters)), (ap0, .inr (0, [.ref ap0_settings, .ref ap0_eyes, .ref ap0_favours, .ref ap0_numbers, .ref ap0_pauses, .int res.1, .int vp0_given, .int vp0_taken])), (ap0_numbers, .inl (g.2.1, 24, .inl res.2.1)), (ap0_pauses, .inl (g.2.1, 24, .inl res.2.2))]) 0 0) 0 [(0, .ref ah), (1, .ref ap0)] [] ([(ah, .inr (2, [.ref ah_characters, .int vh_length])), (ah_characters, .inl (g.2.2.1, 60, .inl vh_characters)), (ap0, .inr (0, [.ref ap0_settings, .ref ap0_eyes, .ref ap0_favours, .ref ap0_numbers, .ref ap0_pauses, .int vp0_bows, .int vp0_given, .int vp0_taken])), (ap0_numbers, .inl (g.2.1, 24, .inl vp0_numbers)), (ap0_pauses, .inl (g.2.1, 24, .inl vp0_pauses))]) 0 0
  refine bw_iconst 0 dX2_addBowsTo_0 (by decide) ?_
  refine bw_istore_n [(2, .int 0), (0, .ref ah), (1, .ref ap0)] dX2_addBowsTo_1 rfl (by decide) rfl ?_
  refine bw_lv [1, 2, 0] rfl ?_
  exact s_X2_addBowsTo_L2 l g ah ah_characters ap0 ap0_settings ap0_eyes ap0_favours ap0_numbers ap0_pauses bw_F vh_length vh_characters vp0_bows vp0_given vp0_taken vp0_numbers vp0_pauses 0 _ hf
theorem ar_X3_seenNumber : yX3_seenNumber.cls ≠ "java/lang/invoke/MethodHandle" ∧ yX3_seenNumber.cls ≠ "java/lang/invoke/VarHandle" ∧ (parseMethodDescriptor yX3_seenNumber.desc).map (fun d => d.parameters.length) = some 2 := ⟨by decide, by decide, by decide +kernel⟩
def f_X3_seenNumber  (p0 : Int32) (p1 : Int32) : Option (Int32) := ((f_X4_bowNumber 3 0).bind fun q_5 => (if p0 < q_5 then (if p1 = 1 then some p0 else some p0) else (if p1 = 1 then some (p0 - 2) else some p0)))
set_option maxHeartbeats 4000000 in
set_option maxRecDepth 100000 in
theorem s_X3_seenNumber (l : Launch) (g : bwG)   (p0 : Int32) (p1 : Int32) (res : Int32) (hf : f_X3_seenNumber  p0 p1 = some res) : bwS l g yX3_seenNumber cX3_seenNumber 3 (some .int) ({ frames := 1, cells := 0, slots := 0, locals := 21 } : Room) [.int p0, .int p1] ([]) (fun r w => r = some (.int res) ∧ w = []) := by
  refine bwS_of (by decide) (Nat.le_of_ble_eq_true rfl) ?_
  unfold f_X3_seenNumber at hf
  show bwR l g cX3_seenNumber 3 RX3 "seenNumber" (some .int) ({ frames := 1, cells := 0, slots := 0, locals := 21 } : Room) bwT (bwZ g (fun r w => r = some (.int res) ∧ w = []) 0 0) 0 [(0, .int p0), (1, .int p1)] [] ([]) 0 0
  refine bw_iload_n 0 dX3_seenNumber_0 rfl rfl ?_
  refine bw_iconst 3 dX3_seenNumber_1 (by decide) ?_
  refine bw_iconst 0 dX3_seenNumber_2 (by decide) ?_
  obtain ⟨q_5, hc_5, hf⟩ := bw_bind hf
  refine bw_callSN "BowSpeeches" [.int 3, .int 0] [.int p0] [] (s_X4_bowNumber l g   3 0 _ hc_5) rfl co_X4_bowNumber ini_X4 mn_X3_82 st_X4_bowNumber ar_X4_bowNumber ⟨Nat.le_of_ble_eq_true rfl, Nat.le_of_ble_eq_true rfl⟩ ⟨Nat.le_of_ble_eq_true rfl, Nat.le_of_ble_eq_true rfl⟩ (bw_pick1 0 [] rfl rfl (by decide)) (Nat.le_of_ble_eq_true rfl) dX3_seenNumber_3 (fun r w1 hq => ?_)
  obtain ⟨rfl, rfl⟩ := hq
  refine bw_perm (ws1 := []) (bw_pick1 0 [] rfl rfl (by decide)) ?_
  refine bw_st (st1 := [.int q_5, .int p0]) rfl ?_
  refine bw_icmp_lt 13 dX3_seenNumber_6 (by decide) (fun c_6 => ?_) (fun c_6 => ?_)
  · have hf := bw_pos c_6 hf
    refine bw_iconst 0 dX3_seenNumber_13 (by decide) ?_
    refine bw_istore_n [(2, .int 0), (0, .int p0), (1, .int p1)] dX3_seenNumber_14 rfl (by decide) rfl ?_
    refine bw_iload_n 2 dX3_seenNumber_15 rfl rfl ?_
    refine bw_iconst 1 dX3_seenNumber_16 (by decide) ?_
    refine bw_icmp_ne 30 dX3_seenNumber_17 (by decide) (fun c_7 => ?_) (fun c_7 => ?_)
    · have hf := bw_neg c_7 hf
      refine bw_iload_n 1 dX3_seenNumber_30 rfl rfl ?_
      cases Option.some.inj hf
      exact bw_ret rfl rfl (Nat.le_of_ble_eq_true rfl) (Nat.le_of_ble_eq_true rfl) dX3_seenNumber_31 ⟨rfl, rfl⟩
    · have hf := bw_pos c_7 hf
      refine bw_iload_n 0 dX3_seenNumber_20 rfl rfl ?_
      refine bw_if_eq 30 dX3_seenNumber_21 (by decide) (fun _ => ?_) (fun c => absurd c (by decide))
      refine bw_iload_n 1 dX3_seenNumber_30 rfl rfl ?_
      cases Option.some.inj hf
      exact bw_ret rfl rfl (Nat.le_of_ble_eq_true rfl) (Nat.le_of_ble_eq_true rfl) dX3_seenNumber_31 ⟨rfl, rfl⟩
  · have hf := bw_neg c_6 hf
    refine bw_iconst 1 dX3_seenNumber_9 (by decide) ?_
    refine bw_goto 14 dX3_seenNumber_10 (by decide) ?_
    refine bw_istore_n [(2, .int 1), (0, .int p0), (1, .int p1)] dX3_seenNumber_14 rfl (by decide) rfl ?_
    refine bw_iload_n 2 dX3_seenNumber_15 rfl rfl ?_
    refine bw_iconst 1 dX3_seenNumber_16 (by decide) ?_
    refine bw_icmp_ne 30 dX3_seenNumber_17 (by decide) (fun c_8 => ?_) (fun c_8 => ?_)
    · have hf := bw_neg c_8 hf
      refine bw_iload_n 1 dX3_seenNumber_30 rfl rfl ?_
      cases Option.some.inj hf
      exact bw_ret rfl rfl (Nat.le_of_ble_eq_true rfl) (Nat.le_of_ble_eq_true rfl) dX3_seenNumber_31 ⟨rfl, rfl⟩
    · have hf := bw_pos c_8 hf
      refine bw_iload_n 0 dX3_seenNumber_20 rfl rfl ?_
      refine bw_if_eq 30 dX3_seenNumber_21 (by decide) (fun c => absurd c (by decide)) (fun _ => ?_)
      refine bw_iload_n 1 dX3_seenNumber_24 rfl rfl ?_
      refine bw_iconst 2 dX3_seenNumber_25 (by decide) ?_
      refine bw_isub dX3_seenNumber_26 ?_
      refine bw_goto 31 dX3_seenNumber_27 (by decide) ?_
      cases Option.some.inj hf
      exact bw_ret rfl rfl (Nat.le_of_ble_eq_true rfl) (Nat.le_of_ble_eq_true rfl) dX3_seenNumber_31 ⟨rfl, rfl⟩
theorem ar_X3_seenAsBreak : yX3_seenAsBreak.cls ≠ "java/lang/invoke/MethodHandle" ∧ yX3_seenAsBreak.cls ≠ "java/lang/invoke/VarHandle" ∧ (parseMethodDescriptor yX3_seenAsBreak.desc).map (fun d => d.parameters.length) = some 3 := ⟨by decide, by decide, by decide +kernel⟩
def f_X3_seenAsBreak  (p0 : Int32) (p1 : Int32) (p2 : Int32) : Option (Int32) := (if p2 ≤ p0 then some 1 else (if p1 = 2 then (if p0 < 1 then some 0 else some 1) else some 0))
set_option maxHeartbeats 4000000 in
set_option maxRecDepth 100000 in
theorem s_X3_seenAsBreak (l : Launch) (g : bwG)   (p0 : Int32) (p1 : Int32) (p2 : Int32) (res : Int32) (hf : f_X3_seenAsBreak  p0 p1 p2 = some res) : bwS l g yX3_seenAsBreak cX3_seenAsBreak 3 (some .boolean) ({ frames := 0, cells := 0, slots := 0, locals := 0 } : Room) [.int p0, .int p1, .int p2] ([]) (fun r w => r = some (.int res) ∧ w = []) := by
  refine bwS_of (by decide) (Nat.le_of_ble_eq_true rfl) ?_
  unfold f_X3_seenAsBreak at hf
  show bwR l g cX3_seenAsBreak 3 RX3 "seenAsBreak" (some .boolean) ({ frames := 0, cells := 0, slots := 0, locals := 0 } : Room) bwT (bwZ g (fun r w => r = some (.int res) ∧ w = []) 0 0) 0 [(0, .int p0), (1, .int p1), (2, .int p2)] [] ([]) 0 0
  refine bw_iload_n 0 dX3_seenAsBreak_0 rfl rfl ?_
  refine bw_iload_n 2 dX3_seenAsBreak_1 rfl rfl ?_
  refine bw_icmp_ge 15 dX3_seenAsBreak_2 (by decide) (fun c_4 => ?_) (fun c_4 => ?_)
  · have hf := bw_pos c_4 hf
    refine bw_iconst 1 dX3_seenAsBreak_15 (by decide) ?_
    refine bw_goto 20 dX3_seenAsBreak_16 (by decide) ?_
    cases Option.some.inj hf
    exact bw_ret rfl rfl (Nat.le_of_ble_eq_true rfl) (Nat.le_of_ble_eq_true rfl) dX3_seenAsBreak_20 ⟨rfl, rfl⟩
  · have hf := bw_neg c_4 hf
    refine bw_iload_n 1 dX3_seenAsBreak_5 rfl rfl ?_
    refine bw_iconst 2 dX3_seenAsBreak_6 (by decide) ?_
    refine bw_icmp_ne 19 dX3_seenAsBreak_7 (by decide) (fun c_5 => ?_) (fun c_5 => ?_)
    · have hf := bw_neg c_5 hf
      refine bw_iconst 0 dX3_seenAsBreak_19 (by decide) ?_
      cases Option.some.inj hf
      exact bw_ret rfl rfl (Nat.le_of_ble_eq_true rfl) (Nat.le_of_ble_eq_true rfl) dX3_seenAsBreak_20 ⟨rfl, rfl⟩
    · have hf := bw_pos c_5 hf
      refine bw_iload_n 0 dX3_seenAsBreak_10 rfl rfl ?_
      refine bw_iconst 1 dX3_seenAsBreak_11 (by decide) ?_
      refine bw_icmp_lt 19 dX3_seenAsBreak_12 (by decide) (fun c_6 => ?_) (fun c_6 => ?_)
      · have hf := bw_pos c_6 hf
        refine bw_iconst 0 dX3_seenAsBreak_19 (by decide) ?_
        cases Option.some.inj hf
        exact bw_ret rfl rfl (Nat.le_of_ble_eq_true rfl) (Nat.le_of_ble_eq_true rfl) dX3_seenAsBreak_20 ⟨rfl, rfl⟩
      · have hf := bw_neg c_6 hf
        refine bw_iconst 1 dX3_seenAsBreak_15 (by decide) ?_
        refine bw_goto 20 dX3_seenAsBreak_16 (by decide) ?_
        cases Option.some.inj hf
        exact bw_ret rfl rfl (Nat.le_of_ble_eq_true rfl) (Nat.le_of_ble_eq_true rfl) dX3_seenAsBreak_20 ⟨rfl, rfl⟩
theorem ar_X3_wordOf : yX3_wordOf.cls ≠ "java/lang/invoke/MethodHandle" ∧ yX3_wordOf.cls ≠ "java/lang/invoke/VarHandle" ∧ (parseMethodDescriptor yX3_wordOf.desc).map (fun d => d.parameters.length) = some 2 := ⟨by decide, by decide, by decide +kernel⟩
def f_X3_wordOf  (p0 : Int32) (p1 : Int32) : Option (Int32) := (if p0 = 1 then some p1 else (if p0 = 2 then some (6 + p1) else (if p0 = 3 then some (42 + p1) else some (-1000006))))
set_option maxHeartbeats 4000000 in
set_option maxRecDepth 100000 in
theorem s_X3_wordOf (l : Launch) (g : bwG)   (p0 : Int32) (p1 : Int32) (res : Int32) (hf : f_X3_wordOf  p0 p1 = some res) : bwS l g yX3_wordOf cX3_wordOf 2 (some .int) ({ frames := 0, cells := 0, slots := 0, locals := 0 } : Room) [.int p0, .int p1] ([]) (fun r w => r = some (.int res) ∧ w = []) := by
  refine bwS_of (by decide) (Nat.le_of_ble_eq_true rfl) ?_
  unfold f_X3_wordOf at hf
  show bwR l g cX3_wordOf 2 RX3 "wordOf" (some .int) ({ frames := 0, cells := 0, slots := 0, locals := 0 } : Room) bwT (bwZ g (fun r w => r = some (.int res) ∧ w = []) 0 0) 0 [(0, .int p0), (1, .int p1)] [] ([]) 0 0
  refine bw_iload_n 0 dX3_wordOf_0 rfl rfl ?_
  rcases Decidable.em (p0 = 1) with c_4 | c_4
  · have hf := bw_pos c_4 hf
    refine bw_tableIn (off := 27) 28 dX3_wordOf_1 (by rw [c_4]; decide) (by rw [c_4]; decide) (by rw [c_4]; rfl) (by decide) ?_
    refine bw_iload_n 1 dX3_wordOf_28 rfl rfl ?_
    cases Option.some.inj hf
    exact bw_ret rfl rfl (Nat.le_of_ble_eq_true rfl) (Nat.le_of_ble_eq_true rfl) dX3_wordOf_29 ⟨rfl, rfl⟩
  · have hf := bw_neg c_4 hf
    rcases Decidable.em (p0 = 2) with c_5 | c_5
    · have hf := bw_pos c_5 hf
      refine bw_tableIn (off := 29) 30 dX3_wordOf_1 (by rw [c_5]; decide) (by rw [c_5]; decide) (by rw [c_5]; rfl) (by decide) ?_
      refine bw_bipush 6 dX3_wordOf_30 (by decide) ?_
      refine bw_iload_n 1 dX3_wordOf_32 rfl rfl ?_
      refine bw_iadd dX3_wordOf_33 ?_
      cases Option.some.inj hf
      exact bw_ret rfl rfl (Nat.le_of_ble_eq_true rfl) (Nat.le_of_ble_eq_true rfl) dX3_wordOf_34 ⟨rfl, rfl⟩
    · have hf := bw_neg c_5 hf
      rcases Decidable.em (p0 = 3) with c_6 | c_6
      · have hf := bw_pos c_6 hf
        refine bw_tableIn (off := 34) 35 dX3_wordOf_1 (by rw [c_6]; decide) (by rw [c_6]; decide) (by rw [c_6]; rfl) (by decide) ?_
        refine bw_bipush 42 dX3_wordOf_35 (by decide) ?_
        refine bw_iload_n 1 dX3_wordOf_37 rfl rfl ?_
        refine bw_iadd dX3_wordOf_38 ?_
        cases Option.some.inj hf
        exact bw_ret rfl rfl (Nat.le_of_ble_eq_true rfl) (Nat.le_of_ble_eq_true rfl) dX3_wordOf_39 ⟨rfl, rfl⟩
      · have hf := bw_neg c_6 hf
        refine bw_tableOut 40 dX3_wordOf_1 (bw_out3_1 c_4 c_5 c_6) (by decide) ?_
        refine bw_ldc ct_X3_85 dX3_wordOf_40 ?_
        cases Option.some.inj hf
        exact bw_ret rfl rfl (Nat.le_of_ble_eq_true rfl) (Nat.le_of_ble_eq_true rfl) dX3_wordOf_42 ⟨rfl, rfl⟩
theorem ar_X3_addGroup : yX3_addGroup.cls ≠ "java/lang/invoke/MethodHandle" ∧ yX3_addGroup.cls ≠ "java/lang/invoke/VarHandle" ∧ (parseMethodDescriptor yX3_addGroup.desc).map (fun d => d.parameters.length) = some 1 := ⟨by decide, by decide, by decide +kernel⟩
def f_X3_addGroup (vh_groups : Int32) (vh_words : Nat → Int32) (p0 : Int32) : Option ((Int32) × (Nat → Int32)) := (if vh_groups < 0 then some (vh_groups, vh_words) else (if 24 ≤ vh_groups then some (vh_groups, vh_words) else (if bw_in vh_groups 24 then some ((vh_groups + 1), (upd vh_words (Int32.toNatClampNeg vh_groups) p0)) else none)))
set_option maxHeartbeats 4000000 in
set_option maxRecDepth 100000 in
theorem s_X3_addGroup (l : Launch) (g : bwG) (ah ah_words ah_left : Nat) (vh_groups : Int32) (vh_kept : Int32) (vh_flourishes : Int32) (vh_longGroups : Int32) (vh_reason : Int32) (vh_sentences : Int32) (vh_words : Nat → Int32) (p0 : Int32) (res : (Int32) × (Nat → Int32)) (hf : f_X3_addGroup vh_groups vh_words p0 = some res) : bwS l g yX3_addGroup cX3_addGroup 2 none ({ frames := 0, cells := 0, slots := 0, locals := 0 } : Room) [.ref ah, .int p0] ([(ah, .inr (3, [.ref ah_words, .int vh_groups, .ref ah_left, .int vh_kept, .int vh_flourishes, .int vh_longGroups, .int vh_reason, .int vh_sentences])), (ah_words, .inl (g.2.1, 24, .inl vh_words))]) (fun r w => r = none ∧ w = [(ah, .inr (3, [.ref ah_words, .int res.1, .ref ah_left, .int vh_kept, .int vh_flourishes, .int vh_longGroups, .int vh_reason, .int vh_sentences])), (ah_words, .inl (g.2.1, 24, .inl res.2))]) := by
  refine bwS_of (by decide) (Nat.le_of_ble_eq_true rfl) ?_
  unfold f_X3_addGroup at hf
  show bwR l g cX3_addGroup 2 RX3 "addGroup" none ({ frames := 0, cells := 0, slots := 0, locals := 0 } : Room) bwT (bwZ g (fun r w => r = none ∧ w = [(ah, .inr (3, [.ref ah_words, .int res.1, .ref ah_left, .int vh_kept, .int vh_flourishes, .int vh_longGroups, .int vh_reason, .int vh_sentences])), (ah_words, .inl (g.2.1, 24, .inl res.2))]) 0 0) 0 [(0, .ref ah), (1, .int p0)] [] ([(ah, .inr (3, [.ref ah_words, .int vh_groups, .ref ah_left, .int vh_kept, .int vh_flourishes, .int vh_longGroups, .int vh_reason, .int vh_sentences])), (ah_words, .inl (g.2.1, 24, .inl vh_words))]) 0 0
  refine bw_aload_n 0 dX3_addGroup_0 rfl rfl ?_
  refine bw_gf bkX3 0 1 (by decide) fl_X3_15 rfl rfl dX3_addGroup_1 ?_
  refine bw_if_lt 36 dX3_addGroup_4 (by decide) (fun c_4 => ?_) (fun c_4 => ?_)
  · have hf := bw_pos c_4 hf
    cases Option.some.inj hf
    exact bw_vret rfl (Nat.le_of_ble_eq_true rfl) (Nat.le_of_ble_eq_true rfl) dX3_addGroup_36 ⟨rfl, rfl⟩
  · have hf := bw_neg c_4 hf
    refine bw_aload_n 0 dX3_addGroup_7 rfl rfl ?_
    refine bw_gf bkX3 0 1 (by decide) fl_X3_15 rfl rfl dX3_addGroup_8 ?_
    refine bw_bipush 24 dX3_addGroup_11 (by decide) ?_
    refine bw_icmp_ge 36 dX3_addGroup_13 (by decide) (fun c_5 => ?_) (fun c_5 => ?_)
    · have hf := bw_pos c_5 hf
      cases Option.some.inj hf
      exact bw_vret rfl (Nat.le_of_ble_eq_true rfl) (Nat.le_of_ble_eq_true rfl) dX3_addGroup_36 ⟨rfl, rfl⟩
    · have hf := bw_neg c_5 hf
      refine bw_aload_n 0 dX3_addGroup_16 rfl rfl ?_
      refine bw_gf bkX3 0 0 (by decide) fl_X3_9 rfl rfl dX3_addGroup_17 ?_
      refine bw_aload_n 0 dX3_addGroup_20 rfl rfl ?_
      refine bw_gf bkX3 0 1 (by decide) fl_X3_15 rfl rfl dX3_addGroup_21 ?_
      refine bw_iload_n 1 dX3_addGroup_24 rfl rfl ?_
      obtain ⟨h_6, hf⟩ := bw_chk hf
      refine bw_iast 1 ([(ah, .inr (3, [.ref ah_words, .int vh_groups, .ref ah_left, .int vh_kept, .int vh_flourishes, .int vh_longGroups, .int vh_reason, .int vh_sentences])), (ah_words, .inl (g.2.1, 24, .inl ((upd vh_words (Int32.toNatClampNeg vh_groups) p0))))]) rfl h_6 rfl dX3_addGroup_25 ?_
      refine bw_aload_n 0 dX3_addGroup_26 rfl rfl ?_
      refine bw_dup dX3_addGroup_27 rfl ?_
      refine bw_gf bkX3 0 1 (by decide) fl_X3_15 rfl rfl dX3_addGroup_28 ?_
      refine bw_iconst 1 dX3_addGroup_31 (by decide) ?_
      refine bw_iadd dX3_addGroup_32 ?_
      refine bw_pf bkX3 0 1 ([(ah, .inr (3, [.ref ah_words, .int ((vh_groups + 1)), .ref ah_left, .int vh_kept, .int vh_flourishes, .int vh_longGroups, .int vh_reason, .int vh_sentences])), (ah_words, .inl (g.2.1, 24, .inl ((upd vh_words (Int32.toNatClampNeg vh_groups) p0))))]) (by decide) fl_X3_15 rfl rfl rfl rfl rfl (Nat.le_of_ble_eq_true rfl) rfl dX3_addGroup_33 ?_
      cases Option.some.inj hf
      exact bw_vret rfl (Nat.le_of_ble_eq_true rfl) (Nat.le_of_ble_eq_true rfl) dX3_addGroup_36 ⟨rfl, rfl⟩
def f_X3_findGroups_L13 : Nat → (Int32) → (Nat → Int32) → (Int32) → (Nat → Int32) → (Nat → Int32) → (Nat → Int32) → (Int32) → (Int32) → (Int32) → (Int32) → Option ((Int32) × (Nat → Int32))
  | 0, _, _, _, _, _, _, _, _, _, _ => none
  | fu + 1, vh_groups, vh_words, vp0_bows, vp0_settings, vp0_numbers, vp0_pauses, x2, x3, x4, x5 => (if vp0_bows ≤ x5 then some (vh_groups, vh_words) else ((f_X0_bowAt vp0_numbers x5).bind fun q_14 => ((f_X3_seenNumber q_14 x2).bind fun q_15 => (if x5 = (vp0_bows - 1) then ((f_X3_wordOf ((x3 + 1)) (((6 * x4) + q_15))).bind fun q_23 => ((f_X3_addGroup vh_groups vh_words q_23).bind fun q_24 => (f_X3_findGroups_L13 fu q_24.1 q_24.2 vp0_bows vp0_settings vp0_numbers vp0_pauses x2 0 0 ((x5 + 1))))) else ((f_X4_at 24 vp0_pauses x5).bind fun q_17 => (if bw_in 0 3 then ((f_X3_seenAsBreak q_17 x2 ((vp0_settings (Int32.toNatClampNeg 0)))).bind fun q_19 => (if q_19 = 0 then (f_X3_findGroups_L13 fu vh_groups vh_words vp0_bows vp0_settings vp0_numbers vp0_pauses x2 ((x3 + 1)) (((6 * x4) + q_15)) ((x5 + 1))) else ((f_X3_wordOf ((x3 + 1)) (((6 * x4) + q_15))).bind fun q_21 => ((f_X3_addGroup vh_groups vh_words q_21).bind fun q_22 => (f_X3_findGroups_L13 fu q_22.1 q_22.2 vp0_bows vp0_settings vp0_numbers vp0_pauses x2 0 0 ((x5 + 1))))))) else none))))))
set_option maxHeartbeats 4000000 in
set_option maxRecDepth 100000 in
theorem s_X3_findGroups_L13 (l : Launch) (g : bwG) (ah ah_words ah_left ap0 ap0_settings ap0_eyes ap0_favours ap0_numbers ap0_pauses : Nat) (fu : Nat) : ∀ (vh_groups : Int32) (vh_kept : Int32) (vh_flourishes : Int32) (vh_longGroups : Int32) (vh_reason : Int32) (vh_sentences : Int32) (vh_words : Nat → Int32) (vp0_bows : Int32) (vp0_given : Int32) (vp0_taken : Int32) (vp0_settings : Nat → Int32) (vp0_numbers : Nat → Int32) (vp0_pauses : Nat → Int32) (x2 : Int32) (x3 : Int32) (x4 : Int32) (x5 : Int32) (res : (Int32) × (Nat → Int32)), f_X3_findGroups_L13 fu vh_groups vh_words vp0_bows vp0_settings vp0_numbers vp0_pauses x2 x3 x4 x5 = some res → bwR l g cX3_findGroups 7 RX3 "findGroups" none ({ frames := 2, cells := 0, slots := 0, locals := 43 } : Room) bwT (bwZ g (fun r w => r = none ∧ w = [(ah, .inr (3, [.ref ah_words, .int res.1, .ref ah_left, .int vh_kept, .int vh_flourishes, .int vh_longGroups, .int vh_reason, .int vh_sentences])), (ah_words, .inl (g.2.1, 24, .inl res.2)), (ap0, .inr (0, [.ref ap0_settings, .ref ap0_eyes, .ref ap0_favours, .ref ap0_numbers, .ref ap0_pauses, .int vp0_bows, .int vp0_given, .int vp0_taken])), (ap0_settings, .inl (g.2.1, 3, .inl vp0_settings)), (ap0_numbers, .inl (g.2.1, 24, .inl vp0_numbers)), (ap0_pauses, .inl (g.2.1, 24, .inl vp0_pauses))]) 0 0) 13 [(0, .ref ah), (1, .ref ap0), (2, .int x2), (3, .int x3), (4, .int x4), (5, .int x5)] [] ([(ah, .inr (3, [.ref ah_words, .int vh_groups, .ref ah_left, .int vh_kept, .int vh_flourishes, .int vh_longGroups, .int vh_reason, .int vh_sentences])), (ah_words, .inl (g.2.1, 24, .inl vh_words)), (ap0, .inr (0, [.ref ap0_settings, .ref ap0_eyes, .ref ap0_favours, .ref ap0_numbers, .ref ap0_pauses, .int vp0_bows, .int vp0_given, .int vp0_taken])), (ap0_settings, .inl (g.2.1, 3, .inl vp0_settings)), (ap0_numbers, .inl (g.2.1, 24, .inl vp0_numbers)), (ap0_pauses, .inl (g.2.1, 24, .inl vp0_pauses))]) 0 0 := by
  induction fu with
  | zero => intro vh_groups vh_kept vh_flourishes vh_longGroups vh_reason vh_sentences vh_words vp0_bows vp0_given vp0_taken vp0_settings vp0_numbers vp0_pauses x2 x3 x4 x5 res hf; exact absurd hf (by intro h; cases h)
  | succ fu ih =>
    intro vh_groups vh_kept vh_flourishes vh_longGroups vh_reason vh_sentences vh_words vp0_bows vp0_given vp0_taken vp0_settings vp0_numbers vp0_pauses x2 x3 x4 x5 res hf
    rw [f_X3_findGroups_L13] at hf
    refine bw_iload 5 dX3_findGroups_13 rfl ?_
    refine bw_aload_n 1 dX3_findGroups_15 rfl rfl ?_
    refine bw_gf bkX0 2 5 (by decide) fl_X3_48 rfl rfl dX3_findGroups_16 ?_
    refine bw_icmp_ge 109 dX3_findGroups_19 (by decide) (fun c_13 => ?_) (fun c_13 => ?_)
    · have hf := bw_pos c_13 hf
      cases Option.some.inj hf
      exact bw_vret rfl (Nat.le_of_ble_eq_true rfl) (Nat.le_of_ble_eq_true rfl) dX3_findGroups_109 ⟨rfl, rfl⟩
    · have hf := bw_neg c_13 hf
      refine bw_iinc 3 (x3 + 1) [(3, .int ((x3 + 1))), (0, .ref ah), (1, .ref ap0), (2, .int x2), (4, .int x4), (5, .int x5)] dX3_findGroups_22 rfl rfl (by decide) rfl ?_
      refine bw_bipush 6 dX3_findGroups_25 (by decide) ?_
      refine bw_iload 4 dX3_findGroups_27 rfl ?_
      refine bw_imul dX3_findGroups_29 ?_
      refine bw_aload_n 2 dX3_findGroups_30 rfl rfl ?_
      refine bw_iload 5 dX3_findGroups_31 rfl ?_
      obtain ⟨q_14, hc_14, hf⟩ := bw_bind hf
      refine bw_callV [.int x5] [.int ((6 * x4))] [(ah, .inr (3, [.ref ah_words, .int vh_groups, .ref ah_left, .int vh_kept, .int vh_flourishes, .int vh_longGroups, .int vh_reason, .int vh_sentences])), (ah_words, .inl (g.2.1, 24, .inl vh_words)), (ap0_settings, .inl (g.2.1, 3, .inl vp0_settings)), (ap0_pauses, .inl (g.2.1, 24, .inl vp0_pauses))] 0 0 (s_X0_bowAt l g ap0 ap0_settings ap0_eyes ap0_favours ap0_numbers ap0_pauses vp0_bows vp0_given vp0_taken vp0_numbers x5 _ hc_14) rfl co_X0_bowAt ini_X0 ml_X3_53 im_X0_bowAt se_X0_bowAt ar_X0_bowAt ⟨Nat.le_of_ble_eq_true rfl, Nat.le_of_ble_eq_true rfl⟩ ⟨Nat.le_of_ble_eq_true rfl, Nat.le_of_ble_eq_true rfl⟩ rfl rfl (bw_pick1 6 [2, 4, 0, 1, 3, 5] rfl rfl (by decide)) (Nat.le_of_ble_eq_true rfl) dX3_findGroups_33 (fun r w1 hq => ?_)
      obtain ⟨rfl, rfl⟩ := hq
      refine bw_perm (ws1 := [(ah, .inr (3, [.ref ah_words, .int vh_groups, .ref ah_left, .int vh_kept, .int vh_flourishes, .int vh_longGroups, .int vh_reason, .int vh_sentences])), (ah_words, .inl (g.2.1, 24, .inl vh_words)), (ap0, .inr (0, [.ref ap0_settings, .ref ap0_eyes, .ref ap0_favours, .ref ap0_numbers, .ref ap0_pauses, .int vp0_bows, .int vp0_given, .int vp0_taken])), (ap0_settings, .inl (g.2.1, 3, .inl vp0_settings)), (ap0_numbers, .inl (g.2.1, 24, .inl vp0_numbers)), (ap0_pauses, .inl (g.2.1, 24, .inl vp0_pauses))]) (bw_pick1 6 [0, 1, 4, 2, 5, 3] rfl rfl (by decide)) ?_
      refine bw_st (st1 := [.int q_14, .int ((6 * x4))]) rfl ?_
      refine bw_iload_n 3 dX3_findGroups_36 rfl rfl ?_
      obtain ⟨q_15, hc_15, hf⟩ := bw_bind hf
      refine bw_callS [.int q_14, .int x2] [.int ((6 * x4))] [(ah, .inr (3, [.ref ah_words, .int vh_groups, .ref ah_left, .int vh_kept, .int vh_flourishes, .int vh_longGroups, .int vh_reason, .int vh_sentences])), (ah_words, .inl (g.2.1, 24, .inl vh_words)), (ap0, .inr (0, [.ref ap0_settings, .ref ap0_eyes, .ref ap0_favours, .ref ap0_numbers, .ref ap0_pauses, .int vp0_bows, .int vp0_given, .int vp0_taken])), (ap0_settings, .inl (g.2.1, 3, .inl vp0_settings)), (ap0_numbers, .inl (g.2.1, 24, .inl vp0_numbers)), (ap0_pauses, .inl (g.2.1, 24, .inl vp0_pauses))] (s_X3_seenNumber l g   q_14 x2 _ hc_15) rfl co_X3_seenNumber ini_X3 ml_X3_57 st_X3_seenNumber ar_X3_seenNumber ⟨Nat.le_of_ble_eq_true rfl, Nat.le_of_ble_eq_true rfl⟩ ⟨Nat.le_of_ble_eq_true rfl, Nat.le_of_ble_eq_true rfl⟩ (bw_pick1 6 [0, 1, 2, 3, 4, 5] rfl rfl (by decide)) (Nat.le_of_ble_eq_true rfl) dX3_findGroups_37 (fun r w1 hq => ?_)
      obtain ⟨rfl, rfl⟩ := hq
      refine bw_perm (ws1 := [(ah, .inr (3, [.ref ah_words, .int vh_groups, .ref ah_left, .int vh_kept, .int vh_flourishes, .int vh_longGroups, .int vh_reason, .int vh_sentences])), (ah_words, .inl (g.2.1, 24, .inl vh_words)), (ap0, .inr (0, [.ref ap0_settings, .ref ap0_eyes, .ref ap0_favours, .ref ap0_numbers, .ref ap0_pauses, .int vp0_bows, .int vp0_given, .int vp0_taken])), (ap0_settings, .inl (g.2.1, 3, .inl vp0_settings)), (ap0_numbers, .inl (g.2.1, 24, .inl vp0_numbers)), (ap0_pauses, .inl (g.2.1, 24, .inl vp0_pauses))]) (bw_pick1 6 [0, 1, 2, 3, 4, 5] rfl rfl (by decide)) ?_
      refine bw_st (st1 := [.int q_15, .int ((6 * x4))]) rfl ?_
      refine bw_iadd dX3_findGroups_40 ?_
      refine bw_istore [(4, .int (((6 * x4) + q_15))), (3, .int ((x3 + 1))), (0, .ref ah), (1, .ref ap0), (2, .int x2), (5, .int x5)] dX3_findGroups_41 (by decide) rfl ?_
      refine bw_iload 5 dX3_findGroups_43 rfl ?_
      refine bw_aload_n 3 dX3_findGroups_45 rfl rfl ?_
      refine bw_gf bkX0 2 5 (by decide) fl_X3_48 rfl rfl dX3_findGroups_46 ?_
      refine bw_iconst 1 dX3_findGroups_49 (by decide) ?_
      refine bw_isub dX3_findGroups_50 ?_
      refine bw_icmp_ne 58 dX3_findGroups_51 (by decide) (fun c_16 => ?_) (fun c_16 => ?_)
      · have hf := bw_neg c_16 hf
        refine bw_iconst 0 dX3_findGroups_58 (by decide) ?_
        refine bw_istore [(6, .int 0), (4, .int (((6 * x4) + q_15))), (3, .int ((x3 + 1))), (0, .ref ah), (1, .ref ap0), (2, .int x2), (5, .int x5)] dX3_findGroups_59 (by decide) rfl ?_
        refine bw_iload 0 dX3_findGroups_61 rfl ?_
        refine bw_if_ne 88 dX3_findGroups_63 (by decide) (fun c => absurd c (by decide)) (fun _ => ?_)
        refine bw_aload_n 4 dX3_findGroups_66 rfl rfl ?_
        refine bw_gf bkX0 2 4 (by decide) fl_X3_61 rfl rfl dX3_findGroups_67 ?_
        refine bw_iload 6 dX3_findGroups_70 rfl ?_
        obtain ⟨q_17, hc_17, hf⟩ := bw_bind hf
        refine bw_callSN "BowSpeeches" [.ref ap0_pauses, .int x5] [] [(ah, .inr (3, [.ref ah_words, .int vh_groups, .ref ah_left, .int vh_kept, .int vh_flourishes, .int vh_longGroups, .int vh_reason, .int vh_sentences])), (ah_words, .inl (g.2.1, 24, .inl vh_words)), (ap0, .inr (0, [.ref ap0_settings, .ref ap0_eyes, .ref ap0_favours, .ref ap0_numbers, .ref ap0_pauses, .int vp0_bows, .int vp0_given, .int vp0_taken])), (ap0_settings, .inl (g.2.1, 3, .inl vp0_settings)), (ap0_numbers, .inl (g.2.1, 24, .inl vp0_numbers))] (s_X4_at l g ap0_pauses 24 vp0_pauses x5 _ hc_17) rfl co_X4_at ini_X4 mn_X3_64 st_X4_at ar_X4_at ⟨Nat.le_of_ble_eq_true rfl, Nat.le_of_ble_eq_true rfl⟩ ⟨Nat.le_of_ble_eq_true rfl, Nat.le_of_ble_eq_true rfl⟩ (bw_pick1 6 [5, 0, 1, 2, 3, 4] rfl rfl (by decide)) (Nat.le_of_ble_eq_true rfl) dX3_findGroups_72 (fun r w1 hq => ?_)
        obtain ⟨rfl, rfl⟩ := hq
        refine bw_perm (ws1 := [(ah, .inr (3, [.ref ah_words, .int vh_groups, .ref ah_left, .int vh_kept, .int vh_flourishes, .int vh_longGroups, .int vh_reason, .int vh_sentences])), (ah_words, .inl (g.2.1, 24, .inl vh_words)), (ap0, .inr (0, [.ref ap0_settings, .ref ap0_eyes, .ref ap0_favours, .ref ap0_numbers, .ref ap0_pauses, .int vp0_bows, .int vp0_given, .int vp0_taken])), (ap0_settings, .inl (g.2.1, 3, .inl vp0_settings)), (ap0_numbers, .inl (g.2.1, 24, .inl vp0_numbers)), (ap0_pauses, .inl (g.2.1, 24, .inl vp0_pauses))]) (bw_pick1 6 [0, 1, 2, 3, 4, 5] rfl rfl (by decide)) ?_
        refine bw_st (st1 := [.int q_17]) rfl ?_
        refine bw_iload_n 5 dX3_findGroups_75 rfl rfl ?_
        refine bw_aload_n 4 dX3_findGroups_76 rfl rfl ?_
        refine bw_gf bkX0 2 0 (by decide) fl_X3_68 rfl rfl dX3_findGroups_77 ?_
        refine bw_iconst 0 dX3_findGroups_80 (by decide) ?_
        obtain ⟨h_18, hf⟩ := bw_chk hf
        refine bw_iald 3 rfl h_18 dX3_findGroups_81 ?_
        obtain ⟨q_19, hc_19, hf⟩ := bw_bind hf
        refine bw_callS [.int q_17, .int x2, .int ((vp0_settings (Int32.toNatClampNeg 0)))] [] [(ah, .inr (3, [.ref ah_words, .int vh_groups, .ref ah_left, .int vh_kept, .int vh_flourishes, .int vh_longGroups, .int vh_reason, .int vh_sentences])), (ah_words, .inl (g.2.1, 24, .inl vh_words)), (ap0, .inr (0, [.ref ap0_settings, .ref ap0_eyes, .ref ap0_favours, .ref ap0_numbers, .ref ap0_pauses, .int vp0_bows, .int vp0_given, .int vp0_taken])), (ap0_settings, .inl (g.2.1, 3, .inl vp0_settings)), (ap0_numbers, .inl (g.2.1, 24, .inl vp0_numbers)), (ap0_pauses, .inl (g.2.1, 24, .inl vp0_pauses))] (s_X3_seenAsBreak l g   q_17 x2 ((vp0_settings (Int32.toNatClampNeg 0))) _ hc_19) rfl co_X3_seenAsBreak ini_X3 ml_X3_71 st_X3_seenAsBreak ar_X3_seenAsBreak ⟨Nat.le_of_ble_eq_true rfl, Nat.le_of_ble_eq_true rfl⟩ ⟨Nat.le_of_ble_eq_true rfl, Nat.le_of_ble_eq_true rfl⟩ (bw_pick1 6 [0, 1, 2, 3, 4, 5] rfl rfl (by decide)) (Nat.le_of_ble_eq_true rfl) dX3_findGroups_82 (fun r w1 hq => ?_)
        obtain ⟨rfl, rfl⟩ := hq
        refine bw_perm (ws1 := [(ah, .inr (3, [.ref ah_words, .int vh_groups, .ref ah_left, .int vh_kept, .int vh_flourishes, .int vh_longGroups, .int vh_reason, .int vh_sentences])), (ah_words, .inl (g.2.1, 24, .inl vh_words)), (ap0, .inr (0, [.ref ap0_settings, .ref ap0_eyes, .ref ap0_favours, .ref ap0_numbers, .ref ap0_pauses, .int vp0_bows, .int vp0_given, .int vp0_taken])), (ap0_settings, .inl (g.2.1, 3, .inl vp0_settings)), (ap0_numbers, .inl (g.2.1, 24, .inl vp0_numbers)), (ap0_pauses, .inl (g.2.1, 24, .inl vp0_pauses))]) (bw_pick1 6 [0, 1, 2, 3, 4, 5] rfl rfl (by decide)) ?_
        refine bw_st (st1 := [.int q_19]) rfl ?_
        refine bw_if_eq 103 dX3_findGroups_85 (by decide) (fun c_20 => ?_) (fun c_20 => ?_)
        · have hf := bw_pos c_20 hf
          refine bw_iinc 6 (x5 + 1) [(5, .int ((x5 + 1))), (6, .int 0), (4, .int (((6 * x4) + q_15))), (3, .int ((x3 + 1))), (0, .ref ah), (1, .ref ap0), (2, .int x2)] dX3_findGroups_103 rfl rfl (by decide) rfl ?_
          refine bw_goto 13 dX3_findGroups_106 (by decide) ?_
          refine bw_lv [4, 5, 6, 3, 2, 0] rfl ?_
          exact ih vh_groups vh_kept vh_flourishes vh_longGroups vh_reason vh_sentences vh_words vp0_bows vp0_given vp0_taken vp0_settings vp0_numbers vp0_pauses x2 ((x3 + 1)) (((6 * x4) + q_15)) ((x5 + 1)) _ hf
        · have hf := bw_neg c_20 hf
          refine bw_aload_n 3 dX3_findGroups_88 rfl rfl ?_
          refine bw_iload_n 2 dX3_findGroups_89 rfl rfl ?_
          refine bw_iload 1 dX3_findGroups_90 rfl ?_
          obtain ⟨q_21, hc_21, hf⟩ := bw_bind hf
          refine bw_callS [.int ((x3 + 1)), .int (((6 * x4) + q_15))] [.ref ah] [(ah, .inr (3, [.ref ah_words, .int vh_groups, .ref ah_left, .int vh_kept, .int vh_flourishes, .int vh_longGroups, .int vh_reason, .int vh_sentences])), (ah_words, .inl (g.2.1, 24, .inl vh_words)), (ap0, .inr (0, [.ref ap0_settings, .ref ap0_eyes, .ref ap0_favours, .ref ap0_numbers, .ref ap0_pauses, .int vp0_bows, .int vp0_given, .int vp0_taken])), (ap0_settings, .inl (g.2.1, 3, .inl vp0_settings)), (ap0_numbers, .inl (g.2.1, 24, .inl vp0_numbers)), (ap0_pauses, .inl (g.2.1, 24, .inl vp0_pauses))] (s_X3_wordOf l g   ((x3 + 1)) (((6 * x4) + q_15)) _ hc_21) rfl co_X3_wordOf ini_X3 ml_X3_75 st_X3_wordOf ar_X3_wordOf ⟨Nat.le_of_ble_eq_true rfl, Nat.le_of_ble_eq_true rfl⟩ ⟨Nat.le_of_ble_eq_true rfl, Nat.le_of_ble_eq_true rfl⟩ (bw_pick1 6 [0, 1, 2, 3, 4, 5] rfl rfl (by decide)) (Nat.le_of_ble_eq_true rfl) dX3_findGroups_92 (fun r w1 hq => ?_)
          obtain ⟨rfl, rfl⟩ := hq
          refine bw_perm (ws1 := [(ah, .inr (3, [.ref ah_words, .int vh_groups, .ref ah_left, .int vh_kept, .int vh_flourishes, .int vh_longGroups, .int vh_reason, .int vh_sentences])), (ah_words, .inl (g.2.1, 24, .inl vh_words)), (ap0, .inr (0, [.ref ap0_settings, .ref ap0_eyes, .ref ap0_favours, .ref ap0_numbers, .ref ap0_pauses, .int vp0_bows, .int vp0_given, .int vp0_taken])), (ap0_settings, .inl (g.2.1, 3, .inl vp0_settings)), (ap0_numbers, .inl (g.2.1, 24, .inl vp0_numbers)), (ap0_pauses, .inl (g.2.1, 24, .inl vp0_pauses))]) (bw_pick1 6 [0, 1, 2, 3, 4, 5] rfl rfl (by decide)) ?_
          refine bw_st (st1 := [.int q_21, .ref ah]) rfl ?_
          obtain ⟨q_22, hc_22, hf⟩ := bw_bind hf
          refine bw_callV [.int q_21] [] [(ap0, .inr (0, [.ref ap0_settings, .ref ap0_eyes, .ref ap0_favours, .ref ap0_numbers, .ref ap0_pauses, .int vp0_bows, .int vp0_given, .int vp0_taken])), (ap0_settings, .inl (g.2.1, 3, .inl vp0_settings)), (ap0_numbers, .inl (g.2.1, 24, .inl vp0_numbers)), (ap0_pauses, .inl (g.2.1, 24, .inl vp0_pauses))] 0 3 (s_X3_addGroup l g ah ah_words ah_left vh_groups vh_kept vh_flourishes vh_longGroups vh_reason vh_sentences vh_words q_21 _ hc_22) rfl co_X3_addGroup ini_X3 ml_X3_78 im_X3_addGroup se_X3_addGroup ar_X3_addGroup ⟨Nat.le_of_ble_eq_true rfl, Nat.le_of_ble_eq_true rfl⟩ ⟨Nat.le_of_ble_eq_true rfl, Nat.le_of_ble_eq_true rfl⟩ rfl rfl (bw_pick1 6 [0, 1, 2, 3, 4, 5] rfl rfl (by decide)) (Nat.le_of_ble_eq_true rfl) dX3_findGroups_95 (fun r w1 hq => ?_)
          obtain ⟨rfl, rfl⟩ := hq
          refine bw_perm (ws1 := [(ah, .inr (3, [.ref ah_words, .int q_22.1, .ref ah_left, .int vh_kept, .int vh_flourishes, .int vh_longGroups, .int vh_reason, .int vh_sentences])), (ah_words, .inl (g.2.1, 24, .inl q_22.2)), (ap0, .inr (0, [.ref ap0_settings, .ref ap0_eyes, .ref ap0_favours, .ref ap0_numbers, .ref ap0_pauses, .int vp0_bows, .int vp0_given, .int vp0_taken])), (ap0_settings, .inl (g.2.1, 3, .inl vp0_settings)), (ap0_numbers, .inl (g.2.1, 24, .inl vp0_numbers)), (ap0_pauses, .inl (g.2.1, 24, .inl vp0_pauses))]) (bw_pick1 6 [4, 5, 0, 1, 2, 3] rfl rfl (by decide)) ?_
          refine bw_st (st1 := []) rfl ?_
          refine bw_iconst 0 dX3_findGroups_98 (by decide) ?_
          refine bw_istore_n [(3, .int 0), (6, .int 0), (4, .int (((6 * x4) + q_15))), (0, .ref ah), (1, .ref ap0), (2, .int x2), (5, .int x5)] dX3_findGroups_99 rfl (by decide) rfl ?_
          refine bw_iconst 0 dX3_findGroups_100 (by decide) ?_
          refine bw_istore [(4, .int 0), (3, .int 0), (6, .int 0), (0, .ref ah), (1, .ref ap0), (2, .int x2), (5, .int x5)] dX3_findGroups_101 (by decide) rfl ?_
          refine bw_iinc 6 (x5 + 1) [(5, .int ((x5 + 1))), (4, .int 0), (3, .int 0), (6, .int 0), (0, .ref ah), (1, .ref ap0), (2, .int x2)] dX3_findGroups_103 rfl rfl (by decide) rfl ?_
          refine bw_goto 13 dX3_findGroups_106 (by decide) ?_
          refine bw_lv [4, 5, 6, 2, 1, 0] rfl ?_
          exact ih q_22.1 vh_kept vh_flourishes vh_longGroups vh_reason vh_sentences q_22.2 vp0_bows vp0_given vp0_taken vp0_settings vp0_numbers vp0_pauses x2 0 0 ((x5 + 1)) _ hf
      · have hf := bw_pos c_16 hf
        refine bw_iconst 1 dX3_findGroups_54 (by decide) ?_
        refine bw_goto 59 dX3_findGroups_55 (by decide) ?_
        refine bw_istore [(6, .int 1), (4, .int (((6 * x4) + q_15))), (3, .int ((x3 + 1))), (0, .ref ah), (1, .ref ap0), (2, .int x2), (5, .int x5)] dX3_findGroups_59 (by decide) rfl ?_
        refine bw_iload 0 dX3_findGroups_61 rfl ?_
        refine bw_if_ne 88 dX3_findGroups_63 (by decide) (fun _ => ?_) (fun c => absurd c (by decide))
        refine bw_aload_n 3 dX3_findGroups_88 rfl rfl ?_
        refine bw_iload_n 2 dX3_findGroups_89 rfl rfl ?_
        refine bw_iload 1 dX3_findGroups_90 rfl ?_
        obtain ⟨q_23, hc_23, hf⟩ := bw_bind hf
        refine bw_callS [.int ((x3 + 1)), .int (((6 * x4) + q_15))] [.ref ah] [(ah, .inr (3, [.ref ah_words, .int vh_groups, .ref ah_left, .int vh_kept, .int vh_flourishes, .int vh_longGroups, .int vh_reason, .int vh_sentences])), (ah_words, .inl (g.2.1, 24, .inl vh_words)), (ap0, .inr (0, [.ref ap0_settings, .ref ap0_eyes, .ref ap0_favours, .ref ap0_numbers, .ref ap0_pauses, .int vp0_bows, .int vp0_given, .int vp0_taken])), (ap0_settings, .inl (g.2.1, 3, .inl vp0_settings)), (ap0_numbers, .inl (g.2.1, 24, .inl vp0_numbers)), (ap0_pauses, .inl (g.2.1, 24, .inl vp0_pauses))] (s_X3_wordOf l g   ((x3 + 1)) (((6 * x4) + q_15)) _ hc_23) rfl co_X3_wordOf ini_X3 ml_X3_75 st_X3_wordOf ar_X3_wordOf ⟨Nat.le_of_ble_eq_true rfl, Nat.le_of_ble_eq_true rfl⟩ ⟨Nat.le_of_ble_eq_true rfl, Nat.le_of_ble_eq_true rfl⟩ (bw_pick1 6 [0, 1, 2, 3, 4, 5] rfl rfl (by decide)) (Nat.le_of_ble_eq_true rfl) dX3_findGroups_92 (fun r w1 hq => ?_)
        obtain ⟨rfl, rfl⟩ := hq
        refine bw_perm (ws1 := [(ah, .inr (3, [.ref ah_words, .int vh_groups, .ref ah_left, .int vh_kept, .int vh_flourishes, .int vh_longGroups, .int vh_reason, .int vh_sentences])), (ah_words, .inl (g.2.1, 24, .inl vh_words)), (ap0, .inr (0, [.ref ap0_settings, .ref ap0_eyes, .ref ap0_favours, .ref ap0_numbers, .ref ap0_pauses, .int vp0_bows, .int vp0_given, .int vp0_taken])), (ap0_settings, .inl (g.2.1, 3, .inl vp0_settings)), (ap0_numbers, .inl (g.2.1, 24, .inl vp0_numbers)), (ap0_pauses, .inl (g.2.1, 24, .inl vp0_pauses))]) (bw_pick1 6 [0, 1, 2, 3, 4, 5] rfl rfl (by decide)) ?_
        refine bw_st (st1 := [.int q_23, .ref ah]) rfl ?_
        obtain ⟨q_24, hc_24, hf⟩ := bw_bind hf
        refine bw_callV [.int q_23] [] [(ap0, .inr (0, [.ref ap0_settings, .ref ap0_eyes, .ref ap0_favours, .ref ap0_numbers, .ref ap0_pauses, .int vp0_bows, .int vp0_given, .int vp0_taken])), (ap0_settings, .inl (g.2.1, 3, .inl vp0_settings)), (ap0_numbers, .inl (g.2.1, 24, .inl vp0_numbers)), (ap0_pauses, .inl (g.2.1, 24, .inl vp0_pauses))] 0 3 (s_X3_addGroup l g ah ah_words ah_left vh_groups vh_kept vh_flourishes vh_longGroups vh_reason vh_sentences vh_words q_23 _ hc_24) rfl co_X3_addGroup ini_X3 ml_X3_78 im_X3_addGroup se_X3_addGroup ar_X3_addGroup ⟨Nat.le_of_ble_eq_true rfl, Nat.le_of_ble_eq_true rfl⟩ ⟨Nat.le_of_ble_eq_true rfl, Nat.le_of_ble_eq_true rfl⟩ rfl rfl (bw_pick1 6 [0, 1, 2, 3, 4, 5] rfl rfl (by decide)) (Nat.le_of_ble_eq_true rfl) dX3_findGroups_95 (fun r w1 hq => ?_)
        obtain ⟨rfl, rfl⟩ := hq
        refine bw_perm (ws1 := [(ah, .inr (3, [.ref ah_words, .int q_24.1, .ref ah_left, .int vh_kept, .int vh_flourishes, .int vh_longGroups, .int vh_reason, .int vh_sentences])), (ah_words, .inl (g.2.1, 24, .inl q_24.2)), (ap0, .inr (0, [.ref ap0_settings, .ref ap0_eyes, .ref ap0_favours, .ref ap0_numbers, .ref ap0_pauses, .int vp0_bows, .int vp0_given, .int vp0_taken])), (ap0_settings, .inl (g.2.1, 3, .inl vp0_settings)), (ap0_numbers, .inl (g.2.1, 24, .inl vp0_numbers)), (ap0_pauses, .inl (g.2.1, 24, .inl vp0_pauses))]) (bw_pick1 6 [4, 5, 0, 1, 2, 3] rfl rfl (by decide)) ?_
        refine bw_st (st1 := []) rfl ?_
        refine bw_iconst 0 dX3_findGroups_98 (by decide) ?_
        refine bw_istore_n [(3, .int 0), (6, .int 1), (4, .int (((6 * x4) + q_15))), (0, .ref ah), (1, .ref ap0), (2, .int x2), (5, .int x5)] dX3_findGroups_99 rfl (by decide) rfl ?_
        refine bw_iconst 0 dX3_findGroups_100 (by decide) ?_
        refine bw_istore [(4, .int 0), (3, .int 0), (6, .int 1), (0, .ref ah), (1, .ref ap0), (2, .int x2), (5, .int x5)] dX3_findGroups_101 (by decide) rfl ?_
        refine bw_iinc 6 (x5 + 1) [(5, .int ((x5 + 1))), (4, .int 0), (3, .int 0), (6, .int 1), (0, .ref ah), (1, .ref ap0), (2, .int x2)] dX3_findGroups_103 rfl rfl (by decide) rfl ?_
        refine bw_goto 13 dX3_findGroups_106 (by decide) ?_
        refine bw_lv [4, 5, 6, 2, 1, 0] rfl ?_
        exact ih q_24.1 vh_kept vh_flourishes vh_longGroups vh_reason vh_sentences q_24.2 vp0_bows vp0_given vp0_taken vp0_settings vp0_numbers vp0_pauses x2 0 0 ((x5 + 1)) _ hf
theorem ar_X3_findGroups : yX3_findGroups.cls ≠ "java/lang/invoke/MethodHandle" ∧ yX3_findGroups.cls ≠ "java/lang/invoke/VarHandle" ∧ (parseMethodDescriptor yX3_findGroups.desc).map (fun d => d.parameters.length) = some 2 := ⟨by decide, by decide, by decide +kernel⟩
def f_X3_findGroups (vh_groups : Int32) (vh_words : Nat → Int32) (vp0_bows : Int32) (vp0_settings : Nat → Int32) (vp0_numbers : Nat → Int32) (vp0_pauses : Nat → Int32) (p1 : Int32) : Option ((Int32) × (Nat → Int32)) := (f_X3_findGroups_L13 bw_F 0 vh_words vp0_bows vp0_settings vp0_numbers vp0_pauses p1 0 0 0)
set_option maxHeartbeats 4000000 in
set_option maxRecDepth 100000 in
theorem s_X3_findGroups (l : Launch) (g : bwG) (ah ah_words ah_left ap0 ap0_settings ap0_eyes ap0_favours ap0_numbers ap0_pauses : Nat) (vh_groups : Int32) (vh_kept : Int32) (vh_flourishes : Int32) (vh_longGroups : Int32) (vh_reason : Int32) (vh_sentences : Int32) (vh_words : Nat → Int32) (vp0_bows : Int32) (vp0_given : Int32) (vp0_taken : Int32) (vp0_settings : Nat → Int32) (vp0_numbers : Nat → Int32) (vp0_pauses : Nat → Int32) (p1 : Int32) (res : (Int32) × (Nat → Int32)) (hf : f_X3_findGroups vh_groups vh_words vp0_bows vp0_settings vp0_numbers vp0_pauses p1 = some res) : bwS l g yX3_findGroups cX3_findGroups 7 none ({ frames := 2, cells := 0, slots := 0, locals := 43 } : Room) [.ref ah, .ref ap0, .int p1] ([(ah, .inr (3, [.ref ah_words, .int vh_groups, .ref ah_left, .int vh_kept, .int vh_flourishes, .int vh_longGroups, .int vh_reason, .int vh_sentences])), (ah_words, .inl (g.2.1, 24, .inl vh_words)), (ap0, .inr (0, [.ref ap0_settings, .ref ap0_eyes, .ref ap0_favours, .ref ap0_numbers, .ref ap0_pauses, .int vp0_bows, .int vp0_given, .int vp0_taken])), (ap0_settings, .inl (g.2.1, 3, .inl vp0_settings)), (ap0_numbers, .inl (g.2.1, 24, .inl vp0_numbers)), (ap0_pauses, .inl (g.2.1, 24, .inl vp0_pauses))]) (fun r w => r = none ∧ w = [(ah, .inr (3, [.ref ah_words, .int res.1, .ref ah_left, .int vh_kept, .int vh_flourishes, .int vh_longGroups, .int vh_reason, .int vh_sentences])), (ah_words, .inl (g.2.1, 24, .inl res.2)), (ap0, .inr (0, [.ref ap0_settings, .ref ap0_eyes, .ref ap0_favours, .ref ap0_numbers, .ref ap0_pauses, .int vp0_bows, .int vp0_given, .int vp0_taken])), (ap0_settings, .inl (g.2.1, 3, .inl vp0_settings)), (ap0_numbers, .inl (g.2.1, 24, .inl vp0_numbers)), (ap0_pauses, .inl (g.2.1, 24, .inl vp0_pauses))]) := by
  refine bwS_of (by decide) (Nat.le_of_ble_eq_true rfl) ?_
  unfold f_X3_findGroups at hf
  show bwR l g cX3_findGroups 7 RX3 "findGroups" none ({ frames := 2, cells := 0, slots := 0, locals := 43 } : Room) bwT (bwZ g (fun r w => r = none ∧ w = [(ah, .inr (3, [.ref ah_words, .int res.1, .ref ah_left, .int vh_kept, .int vh_flourishes, .int vh_longGroups, .int vh_reason, .int vh_sentences])), (ah_words, .inl (g.2.1, 24, .inl res.2)), (ap0, .inr (0, [.ref ap0_settings, .ref ap0_eyes, .ref ap0_favours, .ref ap0_numbers, .ref ap0_pauses, .int vp0_bows, .int vp0_given, .int vp0_taken])), (ap0_settings, .inl (g.2.1, 3, .inl vp0_settings)), (ap0_numbers, .inl (g.2.1, 24, .inl vp0_numbers)), (ap0_pauses, .inl (g.2.1, 24, .inl vp0_pauses))]) 0 0) 0 [(0, .ref ah), (1, .ref ap0), (2, .int p1)] [] ([(ah, .inr (3, [.ref ah_words, .int vh_groups, .ref ah_left, .int vh_kept, .int vh_flourishes, .int vh_longGroups, .int vh_reason, .int vh_sentences])), (ah_words, .inl (g.2.1, 24, .inl vh_words)), (ap0, .inr (0, [.ref ap0_settings, .ref ap0_eyes, .ref ap0_favours, .ref ap0_numbers, .ref ap0_pauses, .int vp0_bows, .int vp0_given, .int vp0_taken])), (ap0_settings, .inl (g.2.1, 3, .inl vp0_settings)), (ap0_numbers, .inl (g.2.1, 24, .inl vp0_numbers)), (ap0_pauses, .inl (g.2.1, 24, .inl vp0_pauses))]) 0 0
  refine bw_aload_n 0 dX3_findGroups_0 rfl rfl ?_
  refine bw_iconst 0 dX3_findGroups_1 (by decide) ?_
  refine bw_pf bkX3 0 1 ([(ah, .inr (3, [.ref ah_words, .int 0, .ref ah_left, .int vh_kept, .int vh_flourishes, .int vh_longGroups, .int vh_reason, .int vh_sentences])), (ah_words, .inl (g.2.1, 24, .inl vh_words)), (ap0, .inr (0, [.ref ap0_settings, .ref ap0_eyes, .ref ap0_favours, .ref ap0_numbers, .ref ap0_pauses, .int vp0_bows, .int vp0_given, .int vp0_taken])), (ap0_settings, .inl (g.2.1, 3, .inl vp0_settings)), (ap0_numbers, .inl (g.2.1, 24, .inl vp0_numbers)), (ap0_pauses, .inl (g.2.1, 24, .inl vp0_pauses))]) (by decide) fl_X3_15 rfl rfl rfl rfl rfl (Nat.le_of_ble_eq_true rfl) rfl dX3_findGroups_2 ?_
  refine bw_iconst 0 dX3_findGroups_5 (by decide) ?_
  refine bw_istore_n [(3, .int 0), (0, .ref ah), (1, .ref ap0), (2, .int p1)] dX3_findGroups_6 rfl (by decide) rfl ?_
  refine bw_iconst 0 dX3_findGroups_7 (by decide) ?_
  refine bw_istore [(4, .int 0), (3, .int 0), (0, .ref ah), (1, .ref ap0), (2, .int p1)] dX3_findGroups_8 (by decide) rfl ?_
  refine bw_iconst 0 dX3_findGroups_10 (by decide) ?_
  refine bw_istore [(5, .int 0), (4, .int 0), (3, .int 0), (0, .ref ah), (1, .ref ap0), (2, .int p1)] dX3_findGroups_11 (by decide) rfl ?_
  refine bw_lv [3, 4, 5, 2, 1, 0] rfl ?_
  exact s_X3_findGroups_L13 l g ah ah_words ah_left ap0 ap0_settings ap0_eyes ap0_favours ap0_numbers ap0_pauses bw_F 0 vh_kept vh_flourishes vh_longGroups vh_reason vh_sentences vh_words vp0_bows vp0_given vp0_taken vp0_settings vp0_numbers vp0_pauses p1 0 0 0 _ hf
theorem ar_X4_isFlourish : yX4_isFlourish.cls ≠ "java/lang/invoke/MethodHandle" ∧ yX4_isFlourish.cls ≠ "java/lang/invoke/VarHandle" ∧ (parseMethodDescriptor yX4_isFlourish.desc).map (fun d => d.parameters.length) = some 1 := ⟨by decide, by decide, by decide +kernel⟩
def f_X4_isFlourish  (p0 : Int32) : Option (Int32) := (if p0 < 42 then some 0 else some 1)
set_option maxHeartbeats 4000000 in
set_option maxRecDepth 100000 in
theorem s_X4_isFlourish (l : Launch) (g : bwG)   (p0 : Int32) (res : Int32) (hf : f_X4_isFlourish  p0 = some res) : bwS l g yX4_isFlourish cX4_isFlourish 1 (some .boolean) ({ frames := 0, cells := 0, slots := 0, locals := 0 } : Room) [.int p0] ([]) (fun r w => r = some (.int res) ∧ w = []) := by
  refine bwS_of (by decide) (Nat.le_of_ble_eq_true rfl) ?_
  unfold f_X4_isFlourish at hf
  show bwR l g cX4_isFlourish 1 RX4 "isFlourish" (some .boolean) ({ frames := 0, cells := 0, slots := 0, locals := 0 } : Room) bwT (bwZ g (fun r w => r = some (.int res) ∧ w = []) 0 0) 0 [(0, .int p0)] [] ([]) 0 0
  refine bw_iload_n 0 dX4_isFlourish_0 rfl rfl ?_
  refine bw_bipush 42 dX4_isFlourish_1 (by decide) ?_
  refine bw_icmp_lt 10 dX4_isFlourish_3 (by decide) (fun c_2 => ?_) (fun c_2 => ?_)
  · have hf := bw_pos c_2 hf
    refine bw_iconst 0 dX4_isFlourish_10 (by decide) ?_
    cases Option.some.inj hf
    exact bw_ret rfl rfl (Nat.le_of_ble_eq_true rfl) (Nat.le_of_ble_eq_true rfl) dX4_isFlourish_11 ⟨rfl, rfl⟩
  · have hf := bw_neg c_2 hf
    refine bw_iconst 1 dX4_isFlourish_6 (by decide) ?_
    refine bw_goto 11 dX4_isFlourish_7 (by decide) ?_
    cases Option.some.inj hf
    exact bw_ret rfl rfl (Nat.le_of_ble_eq_true rfl) (Nat.le_of_ble_eq_true rfl) dX4_isFlourish_11 ⟨rfl, rfl⟩
theorem ar_X3_keep : yX3_keep.cls ≠ "java/lang/invoke/MethodHandle" ∧ yX3_keep.cls ≠ "java/lang/invoke/VarHandle" ∧ (parseMethodDescriptor yX3_keep.desc).map (fun d => d.parameters.length) = some 1 := ⟨by decide, by decide, by decide +kernel⟩
def f_X3_keep (vh_kept : Int32) (vh_left : Nat → Int32) (p0 : Int32) : Option ((Int32) × (Nat → Int32)) := (if vh_kept < 0 then some (vh_kept, vh_left) else (if 24 ≤ vh_kept then some (vh_kept, vh_left) else (if bw_in vh_kept 24 then some ((vh_kept + 1), (upd vh_left (Int32.toNatClampNeg vh_kept) p0)) else none)))
set_option maxHeartbeats 4000000 in
set_option maxRecDepth 100000 in
theorem s_X3_keep (l : Launch) (g : bwG) (ah ah_words ah_left : Nat) (vh_groups : Int32) (vh_kept : Int32) (vh_flourishes : Int32) (vh_longGroups : Int32) (vh_reason : Int32) (vh_sentences : Int32) (vh_left : Nat → Int32) (p0 : Int32) (res : (Int32) × (Nat → Int32)) (hf : f_X3_keep vh_kept vh_left p0 = some res) : bwS l g yX3_keep cX3_keep 2 none ({ frames := 0, cells := 0, slots := 0, locals := 0 } : Room) [.ref ah, .int p0] ([(ah, .inr (3, [.ref ah_words, .int vh_groups, .ref ah_left, .int vh_kept, .int vh_flourishes, .int vh_longGroups, .int vh_reason, .int vh_sentences])), (ah_left, .inl (g.2.1, 24, .inl vh_left))]) (fun r w => r = none ∧ w = [(ah, .inr (3, [.ref ah_words, .int vh_groups, .ref ah_left, .int res.1, .int vh_flourishes, .int vh_longGroups, .int vh_reason, .int vh_sentences])), (ah_left, .inl (g.2.1, 24, .inl res.2))]) := by
  refine bwS_of (by decide) (Nat.le_of_ble_eq_true rfl) ?_
  unfold f_X3_keep at hf
  show bwR l g cX3_keep 2 RX3 "keep" none ({ frames := 0, cells := 0, slots := 0, locals := 0 } : Room) bwT (bwZ g (fun r w => r = none ∧ w = [(ah, .inr (3, [.ref ah_words, .int vh_groups, .ref ah_left, .int res.1, .int vh_flourishes, .int vh_longGroups, .int vh_reason, .int vh_sentences])), (ah_left, .inl (g.2.1, 24, .inl res.2))]) 0 0) 0 [(0, .ref ah), (1, .int p0)] [] ([(ah, .inr (3, [.ref ah_words, .int vh_groups, .ref ah_left, .int vh_kept, .int vh_flourishes, .int vh_longGroups, .int vh_reason, .int vh_sentences])), (ah_left, .inl (g.2.1, 24, .inl vh_left))]) 0 0
  refine bw_aload_n 0 dX3_keep_0 rfl rfl ?_
  refine bw_gf bkX3 0 3 (by decide) fl_X3_22 rfl rfl dX3_keep_1 ?_
  refine bw_if_lt 36 dX3_keep_4 (by decide) (fun c_4 => ?_) (fun c_4 => ?_)
  · have hf := bw_pos c_4 hf
    cases Option.some.inj hf
    exact bw_vret rfl (Nat.le_of_ble_eq_true rfl) (Nat.le_of_ble_eq_true rfl) dX3_keep_36 ⟨rfl, rfl⟩
  · have hf := bw_neg c_4 hf
    refine bw_aload_n 0 dX3_keep_7 rfl rfl ?_
    refine bw_gf bkX3 0 3 (by decide) fl_X3_22 rfl rfl dX3_keep_8 ?_
    refine bw_bipush 24 dX3_keep_11 (by decide) ?_
    refine bw_icmp_ge 36 dX3_keep_13 (by decide) (fun c_5 => ?_) (fun c_5 => ?_)
    · have hf := bw_pos c_5 hf
      cases Option.some.inj hf
      exact bw_vret rfl (Nat.le_of_ble_eq_true rfl) (Nat.le_of_ble_eq_true rfl) dX3_keep_36 ⟨rfl, rfl⟩
    · have hf := bw_neg c_5 hf
      refine bw_aload_n 0 dX3_keep_16 rfl rfl ?_
      refine bw_gf bkX3 0 2 (by decide) fl_X3_19 rfl rfl dX3_keep_17 ?_
      refine bw_aload_n 0 dX3_keep_20 rfl rfl ?_
      refine bw_gf bkX3 0 3 (by decide) fl_X3_22 rfl rfl dX3_keep_21 ?_
      refine bw_iload_n 1 dX3_keep_24 rfl rfl ?_
      obtain ⟨h_6, hf⟩ := bw_chk hf
      refine bw_iast 1 ([(ah, .inr (3, [.ref ah_words, .int vh_groups, .ref ah_left, .int vh_kept, .int vh_flourishes, .int vh_longGroups, .int vh_reason, .int vh_sentences])), (ah_left, .inl (g.2.1, 24, .inl ((upd vh_left (Int32.toNatClampNeg vh_kept) p0))))]) rfl h_6 rfl dX3_keep_25 ?_
      refine bw_aload_n 0 dX3_keep_26 rfl rfl ?_
      refine bw_dup dX3_keep_27 rfl ?_
      refine bw_gf bkX3 0 3 (by decide) fl_X3_22 rfl rfl dX3_keep_28 ?_
      refine bw_iconst 1 dX3_keep_31 (by decide) ?_
      refine bw_iadd dX3_keep_32 ?_
      refine bw_pf bkX3 0 3 ([(ah, .inr (3, [.ref ah_words, .int vh_groups, .ref ah_left, .int ((vh_kept + 1)), .int vh_flourishes, .int vh_longGroups, .int vh_reason, .int vh_sentences])), (ah_left, .inl (g.2.1, 24, .inl ((upd vh_left (Int32.toNatClampNeg vh_kept) p0))))]) (by decide) fl_X3_22 rfl rfl rfl rfl rfl (Nat.le_of_ble_eq_true rfl) rfl dX3_keep_33 ?_
      cases Option.some.inj hf
      exact bw_vret rfl (Nat.le_of_ble_eq_true rfl) (Nat.le_of_ble_eq_true rfl) dX3_keep_36 ⟨rfl, rfl⟩
def f_X3_leaveOutFlourishes_L17 : Nat → (Int32) → (Int32) → (Int32) → (Int32) → (Nat → Int32) → (Nat → Int32) → (Int32) → Option ((Int32) × (Int32) × (Int32) × (Nat → Int32))
  | 0, _, _, _, _, _, _, _ => none
  | fu + 1, vh_groups, vh_kept, vh_flourishes, vh_longGroups, vh_words, vh_left, x1 => (if vh_groups ≤ x1 then some (vh_kept, vh_flourishes, vh_longGroups, vh_left) else ((f_X4_at 24 vh_words x1).bind fun q_8 => (if q_8 = (-1000006) then (f_X3_leaveOutFlourishes_L17 fu vh_groups vh_kept vh_flourishes ((vh_longGroups + 1)) vh_words vh_left ((x1 + 1))) else ((f_X4_isFlourish q_8).bind fun q_10 => (if q_10 = 0 then ((f_X3_keep vh_kept vh_left q_8).bind fun q_12 => (f_X3_leaveOutFlourishes_L17 fu vh_groups q_12.1 vh_flourishes vh_longGroups vh_words q_12.2 ((x1 + 1)))) else (f_X3_leaveOutFlourishes_L17 fu vh_groups vh_kept ((vh_flourishes + 1)) vh_longGroups vh_words vh_left ((x1 + 1))))))))
set_option maxHeartbeats 4000000 in
set_option maxRecDepth 100000 in
theorem s_X3_leaveOutFlourishes_L17 (l : Launch) (g : bwG) (ah ah_words ah_left : Nat) (fu : Nat) : ∀ (vh_groups : Int32) (vh_kept : Int32) (vh_flourishes : Int32) (vh_longGroups : Int32) (vh_reason : Int32) (vh_sentences : Int32) (vh_words : Nat → Int32) (vh_left : Nat → Int32) (x1 : Int32) (res : (Int32) × (Int32) × (Int32) × (Nat → Int32)), f_X3_leaveOutFlourishes_L17 fu vh_groups vh_kept vh_flourishes vh_longGroups vh_words vh_left x1 = some res → bwR l g cX3_leaveOutFlourishes 3 RX3 "leaveOutFlourishes" none ({ frames := 1, cells := 0, slots := 0, locals := 21 } : Room) bwT (bwZ g (fun r w => r = none ∧ w = [(ah, .inr (3, [.ref ah_words, .int vh_groups, .ref ah_left, .int res.1, .int res.2.1, .int res.2.2.1, .int vh_reason, .int vh_sentences])), (ah_words, .inl (g.2.1, 24, .inl vh_words)), (ah_left, .inl (g.2.1, 24, .inl res.2.2.2))]) 0 0) 17 [(0, .ref ah), (1, .int x1)] [] ([(ah, .inr (3, [.ref ah_words, .int vh_groups, .ref ah_left, .int vh_kept, .int vh_flourishes, .int vh_longGroups, .int vh_reason, .int vh_sentences])), (ah_words, .inl (g.2.1, 24, .inl vh_words)), (ah_left, .inl (g.2.1, 24, .inl vh_left))]) 0 0 := by
  induction fu with
  | zero => intro vh_groups vh_kept vh_flourishes vh_longGroups vh_reason vh_sentences vh_words vh_left x1 res hf; exact absurd hf (by intro h; cases h)
  | succ fu ih =>
    intro vh_groups vh_kept vh_flourishes vh_longGroups vh_reason vh_sentences vh_words vh_left x1 res hf
    rw [f_X3_leaveOutFlourishes_L17] at hf
    refine bw_iload_n 1 dX3_leaveOutFlourishes_17 rfl rfl ?_
    refine bw_aload_n 0 dX3_leaveOutFlourishes_18 rfl rfl ?_
    refine bw_gf bkX3 0 1 (by decide) fl_X3_15 rfl rfl dX3_leaveOutFlourishes_19 ?_
    refine bw_icmp_ge 84 dX3_leaveOutFlourishes_22 (by decide) (fun c_7 => ?_) (fun c_7 => ?_)
    · have hf := bw_pos c_7 hf
      cases Option.some.inj hf
      exact bw_vret rfl (Nat.le_of_ble_eq_true rfl) (Nat.le_of_ble_eq_true rfl) dX3_leaveOutFlourishes_84 ⟨rfl, rfl⟩
    · have hf := bw_neg c_7 hf
      refine bw_aload_n 0 dX3_leaveOutFlourishes_25 rfl rfl ?_
      refine bw_gf bkX3 0 0 (by decide) fl_X3_9 rfl rfl dX3_leaveOutFlourishes_26 ?_
      refine bw_iload_n 1 dX3_leaveOutFlourishes_29 rfl rfl ?_
      obtain ⟨q_8, hc_8, hf⟩ := bw_bind hf
      refine bw_callSN "BowSpeeches" [.ref ah_words, .int x1] [] [(ah, .inr (3, [.ref ah_words, .int vh_groups, .ref ah_left, .int vh_kept, .int vh_flourishes, .int vh_longGroups, .int vh_reason, .int vh_sentences])), (ah_left, .inl (g.2.1, 24, .inl vh_left))] (s_X4_at l g ah_words 24 vh_words x1 _ hc_8) rfl co_X4_at ini_X4 mn_X3_64 st_X4_at ar_X4_at ⟨Nat.le_of_ble_eq_true rfl, Nat.le_of_ble_eq_true rfl⟩ ⟨Nat.le_of_ble_eq_true rfl, Nat.le_of_ble_eq_true rfl⟩ (bw_pick1 3 [1, 0, 2] rfl rfl (by decide)) (Nat.le_of_ble_eq_true rfl) dX3_leaveOutFlourishes_30 (fun r w1 hq => ?_)
      obtain ⟨rfl, rfl⟩ := hq
      refine bw_perm (ws1 := [(ah, .inr (3, [.ref ah_words, .int vh_groups, .ref ah_left, .int vh_kept, .int vh_flourishes, .int vh_longGroups, .int vh_reason, .int vh_sentences])), (ah_words, .inl (g.2.1, 24, .inl vh_words)), (ah_left, .inl (g.2.1, 24, .inl vh_left))]) (bw_pick1 3 [0, 2, 1] rfl rfl (by decide)) ?_
      refine bw_st (st1 := [.int q_8]) rfl ?_
      refine bw_istore_n [(2, .int q_8), (0, .ref ah), (1, .int x1)] dX3_leaveOutFlourishes_33 rfl (by decide) rfl ?_
      refine bw_iload_n 0 dX3_leaveOutFlourishes_34 rfl rfl ?_
      refine bw_ldc ct_X3_85 dX3_leaveOutFlourishes_35 ?_
      refine bw_icmp_ne 53 dX3_leaveOutFlourishes_37 (by decide) (fun c_9 => ?_) (fun c_9 => ?_)
      · have hf := bw_neg c_9 hf
        refine bw_iload_n 0 dX3_leaveOutFlourishes_53 rfl rfl ?_
        obtain ⟨q_10, hc_10, hf⟩ := bw_bind hf
        refine bw_callSN "BowSpeeches" [.int q_8] [] [(ah, .inr (3, [.ref ah_words, .int vh_groups, .ref ah_left, .int vh_kept, .int vh_flourishes, .int vh_longGroups, .int vh_reason, .int vh_sentences])), (ah_words, .inl (g.2.1, 24, .inl vh_words)), (ah_left, .inl (g.2.1, 24, .inl vh_left))] (s_X4_isFlourish l g   q_8 _ hc_10) rfl co_X4_isFlourish ini_X4 mn_X3_86 st_X4_isFlourish ar_X4_isFlourish ⟨Nat.le_of_ble_eq_true rfl, Nat.le_of_ble_eq_true rfl⟩ ⟨Nat.le_of_ble_eq_true rfl, Nat.le_of_ble_eq_true rfl⟩ (bw_pick1 3 [0, 1, 2] rfl rfl (by decide)) (Nat.le_of_ble_eq_true rfl) dX3_leaveOutFlourishes_54 (fun r w1 hq => ?_)
        obtain ⟨rfl, rfl⟩ := hq
        refine bw_perm (ws1 := [(ah, .inr (3, [.ref ah_words, .int vh_groups, .ref ah_left, .int vh_kept, .int vh_flourishes, .int vh_longGroups, .int vh_reason, .int vh_sentences])), (ah_words, .inl (g.2.1, 24, .inl vh_words)), (ah_left, .inl (g.2.1, 24, .inl vh_left))]) (bw_pick1 3 [0, 1, 2] rfl rfl (by decide)) ?_
        refine bw_st (st1 := [.int q_10]) rfl ?_
        refine bw_if_eq 73 dX3_leaveOutFlourishes_57 (by decide) (fun c_11 => ?_) (fun c_11 => ?_)
        · have hf := bw_pos c_11 hf
          refine bw_aload_n 1 dX3_leaveOutFlourishes_73 rfl rfl ?_
          refine bw_iload_n 0 dX3_leaveOutFlourishes_74 rfl rfl ?_
          obtain ⟨q_12, hc_12, hf⟩ := bw_bind hf
          refine bw_callV [.int q_8] [] [(ah_words, .inl (g.2.1, 24, .inl vh_words))] 0 3 (s_X3_keep l g ah ah_words ah_left vh_groups vh_kept vh_flourishes vh_longGroups vh_reason vh_sentences vh_left q_8 _ hc_12) rfl co_X3_keep ini_X3 ml_X3_90 im_X3_keep se_X3_keep ar_X3_keep ⟨Nat.le_of_ble_eq_true rfl, Nat.le_of_ble_eq_true rfl⟩ ⟨Nat.le_of_ble_eq_true rfl, Nat.le_of_ble_eq_true rfl⟩ rfl rfl (bw_pick1 3 [0, 2, 1] rfl rfl (by decide)) (Nat.le_of_ble_eq_true rfl) dX3_leaveOutFlourishes_75 (fun r w1 hq => ?_)
          obtain ⟨rfl, rfl⟩ := hq
          refine bw_perm (ws1 := [(ah, .inr (3, [.ref ah_words, .int vh_groups, .ref ah_left, .int q_12.1, .int vh_flourishes, .int vh_longGroups, .int vh_reason, .int vh_sentences])), (ah_words, .inl (g.2.1, 24, .inl vh_words)), (ah_left, .inl (g.2.1, 24, .inl q_12.2))]) (bw_pick1 3 [1, 0, 2] rfl rfl (by decide)) ?_
          refine bw_st (st1 := []) rfl ?_
          refine bw_iinc 2 (x1 + 1) [(1, .int ((x1 + 1))), (2, .int q_8), (0, .ref ah)] dX3_leaveOutFlourishes_78 rfl rfl (by decide) rfl ?_
          refine bw_goto 17 dX3_leaveOutFlourishes_81 (by decide) ?_
          refine bw_lv [2, 0] rfl ?_
          exact ih vh_groups q_12.1 vh_flourishes vh_longGroups vh_reason vh_sentences vh_words q_12.2 ((x1 + 1)) _ hf
        · have hf := bw_neg c_11 hf
          refine bw_aload_n 1 dX3_leaveOutFlourishes_60 rfl rfl ?_
          refine bw_dup dX3_leaveOutFlourishes_61 rfl ?_
          refine bw_gf bkX3 0 4 (by decide) fl_X3_25 rfl rfl dX3_leaveOutFlourishes_62 ?_
          refine bw_iconst 1 dX3_leaveOutFlourishes_65 (by decide) ?_
          refine bw_iadd dX3_leaveOutFlourishes_66 ?_
          refine bw_pf bkX3 0 4 ([(ah, .inr (3, [.ref ah_words, .int vh_groups, .ref ah_left, .int vh_kept, .int ((vh_flourishes + 1)), .int vh_longGroups, .int vh_reason, .int vh_sentences])), (ah_words, .inl (g.2.1, 24, .inl vh_words)), (ah_left, .inl (g.2.1, 24, .inl vh_left))]) (by decide) fl_X3_25 rfl rfl rfl rfl rfl (Nat.le_of_ble_eq_true rfl) rfl dX3_leaveOutFlourishes_67 ?_
          refine bw_goto 78 dX3_leaveOutFlourishes_70 (by decide) ?_
          refine bw_iinc 2 (x1 + 1) [(1, .int ((x1 + 1))), (2, .int q_8), (0, .ref ah)] dX3_leaveOutFlourishes_78 rfl rfl (by decide) rfl ?_
          refine bw_goto 17 dX3_leaveOutFlourishes_81 (by decide) ?_
          refine bw_lv [2, 0] rfl ?_
          exact ih vh_groups vh_kept ((vh_flourishes + 1)) vh_longGroups vh_reason vh_sentences vh_words vh_left ((x1 + 1)) _ hf
      · have hf := bw_pos c_9 hf
        refine bw_aload_n 1 dX3_leaveOutFlourishes_40 rfl rfl ?_
        refine bw_dup dX3_leaveOutFlourishes_41 rfl ?_
        refine bw_gf bkX3 0 5 (by decide) fl_X3_28 rfl rfl dX3_leaveOutFlourishes_42 ?_
        refine bw_iconst 1 dX3_leaveOutFlourishes_45 (by decide) ?_
        refine bw_iadd dX3_leaveOutFlourishes_46 ?_
        refine bw_pf bkX3 0 5 ([(ah, .inr (3, [.ref ah_words, .int vh_groups, .ref ah_left, .int vh_kept, .int vh_flourishes, .int ((vh_longGroups + 1)), .int vh_reason, .int vh_sentences])), (ah_words, .inl (g.2.1, 24, .inl vh_words)), (ah_left, .inl (g.2.1, 24, .inl vh_left))]) (by decide) fl_X3_28 rfl rfl rfl rfl rfl (Nat.le_of_ble_eq_true rfl) rfl dX3_leaveOutFlourishes_47 ?_
        refine bw_goto 78 dX3_leaveOutFlourishes_50 (by decide) ?_
        refine bw_iinc 2 (x1 + 1) [(1, .int ((x1 + 1))), (2, .int q_8), (0, .ref ah)] dX3_leaveOutFlourishes_78 rfl rfl (by decide) rfl ?_
        refine bw_goto 17 dX3_leaveOutFlourishes_81 (by decide) ?_
        refine bw_lv [2, 0] rfl ?_
        exact ih vh_groups vh_kept vh_flourishes ((vh_longGroups + 1)) vh_reason vh_sentences vh_words vh_left ((x1 + 1)) _ hf
theorem ar_X3_leaveOutFlourishes : yX3_leaveOutFlourishes.cls ≠ "java/lang/invoke/MethodHandle" ∧ yX3_leaveOutFlourishes.cls ≠ "java/lang/invoke/VarHandle" ∧ (parseMethodDescriptor yX3_leaveOutFlourishes.desc).map (fun d => d.parameters.length) = some 0 := ⟨by decide, by decide, by decide +kernel⟩
def f_X3_leaveOutFlourishes (vh_groups : Int32) (vh_kept : Int32) (vh_flourishes : Int32) (vh_longGroups : Int32) (vh_words : Nat → Int32) (vh_left : Nat → Int32)  : Option ((Int32) × (Int32) × (Int32) × (Nat → Int32)) := (f_X3_leaveOutFlourishes_L17 bw_F vh_groups 0 0 0 vh_words vh_left 0)
set_option maxHeartbeats 4000000 in
set_option maxRecDepth 100000 in
theorem s_X3_leaveOutFlourishes (l : Launch) (g : bwG) (ah ah_words ah_left : Nat) (vh_groups : Int32) (vh_kept : Int32) (vh_flourishes : Int32) (vh_longGroups : Int32) (vh_reason : Int32) (vh_sentences : Int32) (vh_words : Nat → Int32) (vh_left : Nat → Int32)  (res : (Int32) × (Int32) × (Int32) × (Nat → Int32)) (hf : f_X3_leaveOutFlourishes vh_groups vh_kept vh_flourishes vh_longGroups vh_words vh_left  = some res) : bwS l g yX3_leaveOutFlourishes cX3_leaveOutFlourishes 3 none ({ frames := 1, cells := 0, slots := 0, locals := 21 } : Room) [.ref ah] ([(ah, .inr (3, [.ref ah_words, .int vh_groups, .ref ah_left, .int vh_kept, .int vh_flourishes, .int vh_longGroups, .int vh_reason, .int vh_sentences])), (ah_words, .inl (g.2.1, 24, .inl vh_words)), (ah_left, .inl (g.2.1, 24, .inl vh_left))]) (fun r w => r = none ∧ w = [(ah, .inr (3, [.ref ah_words, .int vh_groups, .ref ah_left, .int res.1, .int res.2.1, .int res.2.2.1, .int vh_reason, .int vh_sentences])), (ah_words, .inl (g.2.1, 24, .inl vh_words)), (ah_left, .inl (g.2.1, 24, .inl res.2.2.2))]) := by
  refine bwS_of (by decide) (Nat.le_of_ble_eq_true rfl) ?_
  unfold f_X3_leaveOutFlourishes at hf
  show bwR l g cX3_leaveOutFlourishes 3 RX3 "leaveOutFlourishes" none ({ frames := 1, cells := 0, slots := 0, locals := 21 } : Room) bwT (bwZ g (fun r w => r = none ∧ w = [(ah, .inr (3, [.ref ah_words, .int vh_groups, .ref ah_left, .int res.1, .int res.2.1, .int res.2.2.1, .int vh_reason, .int vh_sentences])), (ah_words, .inl (g.2.1, 24, .inl vh_words)), (ah_left, .inl (g.2.1, 24, .inl res.2.2.2))]) 0 0) 0 [(0, .ref ah)] [] ([(ah, .inr (3, [.ref ah_words, .int vh_groups, .ref ah_left, .int vh_kept, .int vh_flourishes, .int vh_longGroups, .int vh_reason, .int vh_sentences])), (ah_words, .inl (g.2.1, 24, .inl vh_words)), (ah_left, .inl (g.2.1, 24, .inl vh_left))]) 0 0
  refine bw_aload_n 0 dX3_leaveOutFlourishes_0 rfl rfl ?_
  refine bw_iconst 0 dX3_leaveOutFlourishes_1 (by decide) ?_
  refine bw_pf bkX3 0 4 ([(ah, .inr (3, [.ref ah_words, .int vh_groups, .ref ah_left, .int vh_kept, .int 0, .int vh_longGroups, .int vh_reason, .int vh_sentences])), (ah_words, .inl (g.2.1, 24, .inl vh_words)), (ah_left, .inl (g.2.1, 24, .inl vh_left))]) (by decide) fl_X3_25 rfl rfl rfl rfl rfl (Nat.le_of_ble_eq_true rfl) rfl dX3_leaveOutFlourishes_2 ?_
  refine bw_aload_n 0 dX3_leaveOutFlourishes_5 rfl rfl ?_
  refine bw_iconst 0 dX3_leaveOutFlourishes_6 (by decide) ?_
  refine bw_pf bkX3 0 5 ([(ah, .inr (3, [.ref ah_words, .int vh_groups, .ref ah_left, .int vh_kept, .int 0, .int 0, .int vh_reason, .int vh_sentences])), (ah_words, .inl (g.2.1, 24, .inl vh_words)), (ah_left, .inl (g.2.1, 24, .inl vh_left))]) (by decide) fl_X3_28 rfl rfl rfl rfl rfl (Nat.le_of_ble_eq_true rfl) rfl dX3_leaveOutFlourishes_7 ?_
  refine bw_aload_n 0 dX3_leaveOutFlourishes_10 rfl rfl ?_
  refine bw_iconst 0 dX3_leaveOutFlourishes_11 (by decide) ?_
  refine bw_pf bkX3 0 3 ([(ah, .inr (3, [.ref ah_words, .int vh_groups, .ref ah_left, .int 0, .int 0, .int 0, .int vh_reason, .int vh_sentences])), (ah_words, .inl (g.2.1, 24, .inl vh_words)), (ah_left, .inl (g.2.1, 24, .inl vh_left))]) (by decide) fl_X3_22 rfl rfl rfl rfl rfl (Nat.le_of_ble_eq_true rfl) rfl dX3_leaveOutFlourishes_12 ?_
  refine bw_iconst 0 dX3_leaveOutFlourishes_15 (by decide) ?_
  refine bw_istore_n [(1, .int 0), (0, .ref ah)] dX3_leaveOutFlourishes_16 rfl (by decide) rfl ?_
  refine bw_lv [1, 0] rfl ?_
  exact s_X3_leaveOutFlourishes_L17 l g ah ah_words ah_left bw_F vh_groups 0 0 0 vh_reason vh_sentences vh_words vh_left 0 _ hf
theorem ar_X3_part : yX3_part.cls ≠ "java/lang/invoke/MethodHandle" ∧ yX3_part.cls ≠ "java/lang/invoke/VarHandle" ∧ (parseMethodDescriptor yX3_part.desc).map (fun d => d.parameters.length) = some 2 := ⟨by decide, by decide, by decide +kernel⟩
def f_X3_part (vh_left : Nat → Int32) (p0 : Int32) (p1 : Int32) : Option (Int32) := (if ((3 * p0) + p1) < 0 then some 0 else (if 24 ≤ ((3 * p0) + p1) then some 0 else (if bw_in (((3 * p0) + p1)) 24 then some (vh_left (Int32.toNatClampNeg (((3 * p0) + p1)))) else none)))
set_option maxHeartbeats 4000000 in
set_option maxRecDepth 100000 in
theorem s_X3_part (l : Launch) (g : bwG) (ah ah_words ah_left : Nat) (vh_groups : Int32) (vh_kept : Int32) (vh_flourishes : Int32) (vh_longGroups : Int32) (vh_reason : Int32) (vh_sentences : Int32) (vh_left : Nat → Int32) (p0 : Int32) (p1 : Int32) (res : Int32) (hf : f_X3_part vh_left p0 p1 = some res) : bwS l g yX3_part cX3_part 4 (some .int) ({ frames := 0, cells := 0, slots := 0, locals := 0 } : Room) [.ref ah, .int p0, .int p1] ([(ah, .inr (3, [.ref ah_words, .int vh_groups, .ref ah_left, .int vh_kept, .int vh_flourishes, .int vh_longGroups, .int vh_reason, .int vh_sentences])), (ah_left, .inl (g.2.1, 24, .inl vh_left))]) (fun r w => r = some (.int res) ∧ w = [(ah, .inr (3, [.ref ah_words, .int vh_groups, .ref ah_left, .int vh_kept, .int vh_flourishes, .int vh_longGroups, .int vh_reason, .int vh_sentences])), (ah_left, .inl (g.2.1, 24, .inl vh_left))]) := by
  refine bwS_of (by decide) (Nat.le_of_ble_eq_true rfl) ?_
  unfold f_X3_part at hf
  show bwR l g cX3_part 4 RX3 "part" (some .int) ({ frames := 0, cells := 0, slots := 0, locals := 0 } : Room) bwT (bwZ g (fun r w => r = some (.int res) ∧ w = [(ah, .inr (3, [.ref ah_words, .int vh_groups, .ref ah_left, .int vh_kept, .int vh_flourishes, .int vh_longGroups, .int vh_reason, .int vh_sentences])), (ah_left, .inl (g.2.1, 24, .inl vh_left))]) 0 0) 0 [(0, .ref ah), (1, .int p0), (2, .int p1)] [] ([(ah, .inr (3, [.ref ah_words, .int vh_groups, .ref ah_left, .int vh_kept, .int vh_flourishes, .int vh_longGroups, .int vh_reason, .int vh_sentences])), (ah_left, .inl (g.2.1, 24, .inl vh_left))]) 0 0
  refine bw_iconst 3 dX3_part_0 (by decide) ?_
  refine bw_iload_n 1 dX3_part_1 rfl rfl ?_
  refine bw_imul dX3_part_2 ?_
  refine bw_iload_n 2 dX3_part_3 rfl rfl ?_
  refine bw_iadd dX3_part_4 ?_
  refine bw_istore_n [(3, .int (((3 * p0) + p1))), (0, .ref ah), (1, .int p0), (2, .int p1)] dX3_part_5 rfl (by decide) rfl ?_
  refine bw_iload_n 0 dX3_part_6 rfl rfl ?_
  refine bw_if_lt 25 dX3_part_7 (by decide) (fun c_4 => ?_) (fun c_4 => ?_)
  · have hf := bw_pos c_4 hf
    refine bw_iconst 0 dX3_part_25 (by decide) ?_
    cases Option.some.inj hf
    exact bw_ret rfl rfl (Nat.le_of_ble_eq_true rfl) (Nat.le_of_ble_eq_true rfl) dX3_part_26 ⟨rfl, rfl⟩
  · have hf := bw_neg c_4 hf
    refine bw_iload_n 0 dX3_part_10 rfl rfl ?_
    refine bw_bipush 24 dX3_part_11 (by decide) ?_
    refine bw_icmp_ge 25 dX3_part_13 (by decide) (fun c_5 => ?_) (fun c_5 => ?_)
    · have hf := bw_pos c_5 hf
      refine bw_iconst 0 dX3_part_25 (by decide) ?_
      cases Option.some.inj hf
      exact bw_ret rfl rfl (Nat.le_of_ble_eq_true rfl) (Nat.le_of_ble_eq_true rfl) dX3_part_26 ⟨rfl, rfl⟩
    · have hf := bw_neg c_5 hf
      refine bw_aload_n 1 dX3_part_16 rfl rfl ?_
      refine bw_gf bkX3 0 2 (by decide) fl_X3_19 rfl rfl dX3_part_17 ?_
      refine bw_iload_n 0 dX3_part_20 rfl rfl ?_
      obtain ⟨h_6, hf⟩ := bw_chk hf
      refine bw_iald 1 rfl h_6 dX3_part_21 ?_
      refine bw_goto 26 dX3_part_22 (by decide) ?_
      cases Option.some.inj hf
      exact bw_ret rfl rfl (Nat.le_of_ble_eq_true rfl) (Nat.le_of_ble_eq_true rfl) dX3_part_26 ⟨rfl, rfl⟩
theorem ar_X4_isNameOfCourtier : yX4_isNameOfCourtier.cls ≠ "java/lang/invoke/MethodHandle" ∧ yX4_isNameOfCourtier.cls ≠ "java/lang/invoke/VarHandle" ∧ (parseMethodDescriptor yX4_isNameOfCourtier.desc).map (fun d => d.parameters.length) = some 1 := ⟨by decide, by decide, by decide +kernel⟩
def f_X4_isNameOfCourtier  (p0 : Int32) : Option (Int32) := (if p0 < 0 then some 0 else (if 6 ≤ p0 then some 0 else some 1))
set_option maxHeartbeats 4000000 in
set_option maxRecDepth 100000 in
theorem s_X4_isNameOfCourtier (l : Launch) (g : bwG)   (p0 : Int32) (res : Int32) (hf : f_X4_isNameOfCourtier  p0 = some res) : bwS l g yX4_isNameOfCourtier cX4_isNameOfCourtier 1 (some .boolean) ({ frames := 0, cells := 0, slots := 0, locals := 0 } : Room) [.int p0] ([]) (fun r w => r = some (.int res) ∧ w = []) := by
  refine bwS_of (by decide) (Nat.le_of_ble_eq_true rfl) ?_
  unfold f_X4_isNameOfCourtier at hf
  show bwR l g cX4_isNameOfCourtier 1 RX4 "isNameOfCourtier" (some .boolean) ({ frames := 0, cells := 0, slots := 0, locals := 0 } : Room) bwT (bwZ g (fun r w => r = some (.int res) ∧ w = []) 0 0) 0 [(0, .int p0)] [] ([]) 0 0
  refine bw_iload_n 0 dX4_isNameOfCourtier_0 rfl rfl ?_
  refine bw_if_lt 14 dX4_isNameOfCourtier_1 (by decide) (fun c_3 => ?_) (fun c_3 => ?_)
  · have hf := bw_pos c_3 hf
    refine bw_iconst 0 dX4_isNameOfCourtier_14 (by decide) ?_
    cases Option.some.inj hf
    exact bw_ret rfl rfl (Nat.le_of_ble_eq_true rfl) (Nat.le_of_ble_eq_true rfl) dX4_isNameOfCourtier_15 ⟨rfl, rfl⟩
  · have hf := bw_neg c_3 hf
    refine bw_iload_n 0 dX4_isNameOfCourtier_4 rfl rfl ?_
    refine bw_bipush 6 dX4_isNameOfCourtier_5 (by decide) ?_
    refine bw_icmp_ge 14 dX4_isNameOfCourtier_7 (by decide) (fun c_4 => ?_) (fun c_4 => ?_)
    · have hf := bw_pos c_4 hf
      refine bw_iconst 0 dX4_isNameOfCourtier_14 (by decide) ?_
      cases Option.some.inj hf
      exact bw_ret rfl rfl (Nat.le_of_ble_eq_true rfl) (Nat.le_of_ble_eq_true rfl) dX4_isNameOfCourtier_15 ⟨rfl, rfl⟩
    · have hf := bw_neg c_4 hf
      refine bw_iconst 1 dX4_isNameOfCourtier_10 (by decide) ?_
      refine bw_goto 15 dX4_isNameOfCourtier_11 (by decide) ?_
      cases Option.some.inj hf
      exact bw_ret rfl rfl (Nat.le_of_ble_eq_true rfl) (Nat.le_of_ble_eq_true rfl) dX4_isNameOfCourtier_15 ⟨rfl, rfl⟩
theorem ar_X4_isDeed : yX4_isDeed.cls ≠ "java/lang/invoke/MethodHandle" ∧ yX4_isDeed.cls ≠ "java/lang/invoke/VarHandle" ∧ (parseMethodDescriptor yX4_isDeed.desc).map (fun d => d.parameters.length) = some 1 := ⟨by decide, by decide, by decide +kernel⟩
def f_X4_isDeed  (p0 : Int32) : Option (Int32) := (if p0 < 6 then some 0 else (if 42 ≤ p0 then some 0 else some 1))
set_option maxHeartbeats 4000000 in
set_option maxRecDepth 100000 in
theorem s_X4_isDeed (l : Launch) (g : bwG)   (p0 : Int32) (res : Int32) (hf : f_X4_isDeed  p0 = some res) : bwS l g yX4_isDeed cX4_isDeed 1 (some .boolean) ({ frames := 0, cells := 0, slots := 0, locals := 0 } : Room) [.int p0] ([]) (fun r w => r = some (.int res) ∧ w = []) := by
  refine bwS_of (by decide) (Nat.le_of_ble_eq_true rfl) ?_
  unfold f_X4_isDeed at hf
  show bwR l g cX4_isDeed 1 RX4 "isDeed" (some .boolean) ({ frames := 0, cells := 0, slots := 0, locals := 0 } : Room) bwT (bwZ g (fun r w => r = some (.int res) ∧ w = []) 0 0) 0 [(0, .int p0)] [] ([]) 0 0
  refine bw_iload_n 0 dX4_isDeed_0 rfl rfl ?_
  refine bw_bipush 6 dX4_isDeed_1 (by decide) ?_
  refine bw_icmp_lt 16 dX4_isDeed_3 (by decide) (fun c_3 => ?_) (fun c_3 => ?_)
  · have hf := bw_pos c_3 hf
    refine bw_iconst 0 dX4_isDeed_16 (by decide) ?_
    cases Option.some.inj hf
    exact bw_ret rfl rfl (Nat.le_of_ble_eq_true rfl) (Nat.le_of_ble_eq_true rfl) dX4_isDeed_17 ⟨rfl, rfl⟩
  · have hf := bw_neg c_3 hf
    refine bw_iload_n 0 dX4_isDeed_6 rfl rfl ?_
    refine bw_bipush 42 dX4_isDeed_7 (by decide) ?_
    refine bw_icmp_ge 16 dX4_isDeed_9 (by decide) (fun c_4 => ?_) (fun c_4 => ?_)
    · have hf := bw_pos c_4 hf
      refine bw_iconst 0 dX4_isDeed_16 (by decide) ?_
      cases Option.some.inj hf
      exact bw_ret rfl rfl (Nat.le_of_ble_eq_true rfl) (Nat.le_of_ble_eq_true rfl) dX4_isDeed_17 ⟨rfl, rfl⟩
    · have hf := bw_neg c_4 hf
      refine bw_iconst 1 dX4_isDeed_12 (by decide) ?_
      refine bw_goto 17 dX4_isDeed_13 (by decide) ?_
      cases Option.some.inj hf
      exact bw_ret rfl rfl (Nat.le_of_ble_eq_true rfl) (Nat.le_of_ble_eq_true rfl) dX4_isDeed_17 ⟨rfl, rfl⟩
theorem ar_X3_isInOrder : yX3_isInOrder.cls ≠ "java/lang/invoke/MethodHandle" ∧ yX3_isInOrder.cls ≠ "java/lang/invoke/VarHandle" ∧ (parseMethodDescriptor yX3_isInOrder.desc).map (fun d => d.parameters.length) = some 1 := ⟨by decide, by decide, by decide +kernel⟩
def f_X3_isInOrder (vh_left : Nat → Int32) (p0 : Int32) : Option (Int32) := ((f_X3_part vh_left p0 0).bind fun q_10 => ((f_X4_isNameOfCourtier q_10).bind fun q_11 => (if q_11 = 0 then some 0 else ((f_X3_part vh_left p0 1).bind fun q_13 => ((f_X4_isDeed q_13).bind fun q_14 => (if q_14 = 0 then some 0 else ((f_X3_part vh_left p0 2).bind fun q_16 => ((f_X4_isNameOfCourtier q_16).bind fun q_17 => (if q_17 = 0 then some 0 else some 1)))))))))
set_option maxHeartbeats 4000000 in
set_option maxRecDepth 100000 in
theorem s_X3_isInOrder (l : Launch) (g : bwG) (ah ah_words ah_left : Nat) (vh_groups : Int32) (vh_kept : Int32) (vh_flourishes : Int32) (vh_longGroups : Int32) (vh_reason : Int32) (vh_sentences : Int32) (vh_left : Nat → Int32) (p0 : Int32) (res : Int32) (hf : f_X3_isInOrder vh_left p0 = some res) : bwS l g yX3_isInOrder cX3_isInOrder 2 (some .boolean) ({ frames := 1, cells := 0, slots := 0, locals := 23 } : Room) [.ref ah, .int p0] ([(ah, .inr (3, [.ref ah_words, .int vh_groups, .ref ah_left, .int vh_kept, .int vh_flourishes, .int vh_longGroups, .int vh_reason, .int vh_sentences])), (ah_left, .inl (g.2.1, 24, .inl vh_left))]) (fun r w => r = some (.int res) ∧ w = [(ah, .inr (3, [.ref ah_words, .int vh_groups, .ref ah_left, .int vh_kept, .int vh_flourishes, .int vh_longGroups, .int vh_reason, .int vh_sentences])), (ah_left, .inl (g.2.1, 24, .inl vh_left))]) := by
  refine bwS_of (by decide) (Nat.le_of_ble_eq_true rfl) ?_
  unfold f_X3_isInOrder at hf
  show bwR l g cX3_isInOrder 2 RX3 "isInOrder" (some .boolean) ({ frames := 1, cells := 0, slots := 0, locals := 23 } : Room) bwT (bwZ g (fun r w => r = some (.int res) ∧ w = [(ah, .inr (3, [.ref ah_words, .int vh_groups, .ref ah_left, .int vh_kept, .int vh_flourishes, .int vh_longGroups, .int vh_reason, .int vh_sentences])), (ah_left, .inl (g.2.1, 24, .inl vh_left))]) 0 0) 0 [(0, .ref ah), (1, .int p0)] [] ([(ah, .inr (3, [.ref ah_words, .int vh_groups, .ref ah_left, .int vh_kept, .int vh_flourishes, .int vh_longGroups, .int vh_reason, .int vh_sentences])), (ah_left, .inl (g.2.1, 24, .inl vh_left))]) 0 0
  refine bw_aload_n 0 dX3_isInOrder_0 rfl rfl ?_
  refine bw_iload_n 1 dX3_isInOrder_1 rfl rfl ?_
  refine bw_iconst 0 dX3_isInOrder_2 (by decide) ?_
  obtain ⟨q_10, hc_10, hf⟩ := bw_bind hf
  refine bw_callV [.int p0, .int 0] [] [] 0 3 (s_X3_part l g ah ah_words ah_left vh_groups vh_kept vh_flourishes vh_longGroups vh_reason vh_sentences vh_left p0 0 _ hc_10) rfl co_X3_part ini_X3 ml_X3_96 im_X3_part se_X3_part ar_X3_part ⟨Nat.le_of_ble_eq_true rfl, Nat.le_of_ble_eq_true rfl⟩ ⟨Nat.le_of_ble_eq_true rfl, Nat.le_of_ble_eq_true rfl⟩ rfl rfl (bw_pick1 2 [0, 1] rfl rfl (by decide)) (Nat.le_of_ble_eq_true rfl) dX3_isInOrder_3 (fun r w1 hq => ?_)
  obtain ⟨rfl, rfl⟩ := hq
  refine bw_perm (ws1 := [(ah, .inr (3, [.ref ah_words, .int vh_groups, .ref ah_left, .int vh_kept, .int vh_flourishes, .int vh_longGroups, .int vh_reason, .int vh_sentences])), (ah_left, .inl (g.2.1, 24, .inl vh_left))]) (bw_pick1 2 [0, 1] rfl rfl (by decide)) ?_
  refine bw_st (st1 := [.int q_10]) rfl ?_
  obtain ⟨q_11, hc_11, hf⟩ := bw_bind hf
  refine bw_callSN "BowSpeeches" [.int q_10] [] [(ah, .inr (3, [.ref ah_words, .int vh_groups, .ref ah_left, .int vh_kept, .int vh_flourishes, .int vh_longGroups, .int vh_reason, .int vh_sentences])), (ah_left, .inl (g.2.1, 24, .inl vh_left))] (s_X4_isNameOfCourtier l g   q_10 _ hc_11) rfl co_X4_isNameOfCourtier ini_X4 mn_X3_99 st_X4_isNameOfCourtier ar_X4_isNameOfCourtier ⟨Nat.le_of_ble_eq_true rfl, Nat.le_of_ble_eq_true rfl⟩ ⟨Nat.le_of_ble_eq_true rfl, Nat.le_of_ble_eq_true rfl⟩ (bw_pick1 2 [0, 1] rfl rfl (by decide)) (Nat.le_of_ble_eq_true rfl) dX3_isInOrder_6 (fun r w1 hq => ?_)
  obtain ⟨rfl, rfl⟩ := hq
  refine bw_perm (ws1 := [(ah, .inr (3, [.ref ah_words, .int vh_groups, .ref ah_left, .int vh_kept, .int vh_flourishes, .int vh_longGroups, .int vh_reason, .int vh_sentences])), (ah_left, .inl (g.2.1, 24, .inl vh_left))]) (bw_pick1 2 [0, 1] rfl rfl (by decide)) ?_
  refine bw_st (st1 := [.int q_11]) rfl ?_
  refine bw_if_eq 40 dX3_isInOrder_9 (by decide) (fun c_12 => ?_) (fun c_12 => ?_)
  · have hf := bw_pos c_12 hf
    refine bw_iconst 0 dX3_isInOrder_40 (by decide) ?_
    cases Option.some.inj hf
    exact bw_ret rfl rfl (Nat.le_of_ble_eq_true rfl) (Nat.le_of_ble_eq_true rfl) dX3_isInOrder_41 ⟨rfl, rfl⟩
  · have hf := bw_neg c_12 hf
    refine bw_aload_n 0 dX3_isInOrder_12 rfl rfl ?_
    refine bw_iload_n 1 dX3_isInOrder_13 rfl rfl ?_
    refine bw_iconst 1 dX3_isInOrder_14 (by decide) ?_
    obtain ⟨q_13, hc_13, hf⟩ := bw_bind hf
    refine bw_callV [.int p0, .int 1] [] [] 0 3 (s_X3_part l g ah ah_words ah_left vh_groups vh_kept vh_flourishes vh_longGroups vh_reason vh_sentences vh_left p0 1 _ hc_13) rfl co_X3_part ini_X3 ml_X3_96 im_X3_part se_X3_part ar_X3_part ⟨Nat.le_of_ble_eq_true rfl, Nat.le_of_ble_eq_true rfl⟩ ⟨Nat.le_of_ble_eq_true rfl, Nat.le_of_ble_eq_true rfl⟩ rfl rfl (bw_pick1 2 [0, 1] rfl rfl (by decide)) (Nat.le_of_ble_eq_true rfl) dX3_isInOrder_15 (fun r w1 hq => ?_)
    obtain ⟨rfl, rfl⟩ := hq
    refine bw_perm (ws1 := [(ah, .inr (3, [.ref ah_words, .int vh_groups, .ref ah_left, .int vh_kept, .int vh_flourishes, .int vh_longGroups, .int vh_reason, .int vh_sentences])), (ah_left, .inl (g.2.1, 24, .inl vh_left))]) (bw_pick1 2 [0, 1] rfl rfl (by decide)) ?_
    refine bw_st (st1 := [.int q_13]) rfl ?_
    obtain ⟨q_14, hc_14, hf⟩ := bw_bind hf
    refine bw_callSN "BowSpeeches" [.int q_13] [] [(ah, .inr (3, [.ref ah_words, .int vh_groups, .ref ah_left, .int vh_kept, .int vh_flourishes, .int vh_longGroups, .int vh_reason, .int vh_sentences])), (ah_left, .inl (g.2.1, 24, .inl vh_left))] (s_X4_isDeed l g   q_13 _ hc_14) rfl co_X4_isDeed ini_X4 mn_X3_102 st_X4_isDeed ar_X4_isDeed ⟨Nat.le_of_ble_eq_true rfl, Nat.le_of_ble_eq_true rfl⟩ ⟨Nat.le_of_ble_eq_true rfl, Nat.le_of_ble_eq_true rfl⟩ (bw_pick1 2 [0, 1] rfl rfl (by decide)) (Nat.le_of_ble_eq_true rfl) dX3_isInOrder_18 (fun r w1 hq => ?_)
    obtain ⟨rfl, rfl⟩ := hq
    refine bw_perm (ws1 := [(ah, .inr (3, [.ref ah_words, .int vh_groups, .ref ah_left, .int vh_kept, .int vh_flourishes, .int vh_longGroups, .int vh_reason, .int vh_sentences])), (ah_left, .inl (g.2.1, 24, .inl vh_left))]) (bw_pick1 2 [0, 1] rfl rfl (by decide)) ?_
    refine bw_st (st1 := [.int q_14]) rfl ?_
    refine bw_if_eq 40 dX3_isInOrder_21 (by decide) (fun c_15 => ?_) (fun c_15 => ?_)
    · have hf := bw_pos c_15 hf
      refine bw_iconst 0 dX3_isInOrder_40 (by decide) ?_
      cases Option.some.inj hf
      exact bw_ret rfl rfl (Nat.le_of_ble_eq_true rfl) (Nat.le_of_ble_eq_true rfl) dX3_isInOrder_41 ⟨rfl, rfl⟩
    · have hf := bw_neg c_15 hf
      refine bw_aload_n 0 dX3_isInOrder_24 rfl rfl ?_
      refine bw_iload_n 1 dX3_isInOrder_25 rfl rfl ?_
      refine bw_iconst 2 dX3_isInOrder_26 (by decide) ?_
      obtain ⟨q_16, hc_16, hf⟩ := bw_bind hf
      refine bw_callV [.int p0, .int 2] [] [] 0 3 (s_X3_part l g ah ah_words ah_left vh_groups vh_kept vh_flourishes vh_longGroups vh_reason vh_sentences vh_left p0 2 _ hc_16) rfl co_X3_part ini_X3 ml_X3_96 im_X3_part se_X3_part ar_X3_part ⟨Nat.le_of_ble_eq_true rfl, Nat.le_of_ble_eq_true rfl⟩ ⟨Nat.le_of_ble_eq_true rfl, Nat.le_of_ble_eq_true rfl⟩ rfl rfl (bw_pick1 2 [0, 1] rfl rfl (by decide)) (Nat.le_of_ble_eq_true rfl) dX3_isInOrder_27 (fun r w1 hq => ?_)
      obtain ⟨rfl, rfl⟩ := hq
      refine bw_perm (ws1 := [(ah, .inr (3, [.ref ah_words, .int vh_groups, .ref ah_left, .int vh_kept, .int vh_flourishes, .int vh_longGroups, .int vh_reason, .int vh_sentences])), (ah_left, .inl (g.2.1, 24, .inl vh_left))]) (bw_pick1 2 [0, 1] rfl rfl (by decide)) ?_
      refine bw_st (st1 := [.int q_16]) rfl ?_
      obtain ⟨q_17, hc_17, hf⟩ := bw_bind hf
      refine bw_callSN "BowSpeeches" [.int q_16] [] [(ah, .inr (3, [.ref ah_words, .int vh_groups, .ref ah_left, .int vh_kept, .int vh_flourishes, .int vh_longGroups, .int vh_reason, .int vh_sentences])), (ah_left, .inl (g.2.1, 24, .inl vh_left))] (s_X4_isNameOfCourtier l g   q_16 _ hc_17) rfl co_X4_isNameOfCourtier ini_X4 mn_X3_99 st_X4_isNameOfCourtier ar_X4_isNameOfCourtier ⟨Nat.le_of_ble_eq_true rfl, Nat.le_of_ble_eq_true rfl⟩ ⟨Nat.le_of_ble_eq_true rfl, Nat.le_of_ble_eq_true rfl⟩ (bw_pick1 2 [0, 1] rfl rfl (by decide)) (Nat.le_of_ble_eq_true rfl) dX3_isInOrder_30 (fun r w1 hq => ?_)
      obtain ⟨rfl, rfl⟩ := hq
      refine bw_perm (ws1 := [(ah, .inr (3, [.ref ah_words, .int vh_groups, .ref ah_left, .int vh_kept, .int vh_flourishes, .int vh_longGroups, .int vh_reason, .int vh_sentences])), (ah_left, .inl (g.2.1, 24, .inl vh_left))]) (bw_pick1 2 [0, 1] rfl rfl (by decide)) ?_
      refine bw_st (st1 := [.int q_17]) rfl ?_
      refine bw_if_eq 40 dX3_isInOrder_33 (by decide) (fun c_18 => ?_) (fun c_18 => ?_)
      · have hf := bw_pos c_18 hf
        refine bw_iconst 0 dX3_isInOrder_40 (by decide) ?_
        cases Option.some.inj hf
        exact bw_ret rfl rfl (Nat.le_of_ble_eq_true rfl) (Nat.le_of_ble_eq_true rfl) dX3_isInOrder_41 ⟨rfl, rfl⟩
      · have hf := bw_neg c_18 hf
        refine bw_iconst 1 dX3_isInOrder_36 (by decide) ?_
        refine bw_goto 41 dX3_isInOrder_37 (by decide) ?_
        cases Option.some.inj hf
        exact bw_ret rfl rfl (Nat.le_of_ble_eq_true rfl) (Nat.le_of_ble_eq_true rfl) dX3_isInOrder_41 ⟨rfl, rfl⟩
def f_X3_findReason_L40 : Nat → (Int32) → (Int32) → (Int32) → (Nat → Int32) → (Int32) → (Int32) → Option (Int32)
  | 0, _, _, _, _, _, _ => none
  | fu + 1, vh_groups, vh_kept, vh_longGroups, vh_left, x1, x2 => (if (vh_kept / 3) ≤ x2 then (if x1 = 0 then some 0 else some 5) else ((f_X3_isInOrder vh_left x2).bind fun q_14 => (if q_14 = 0 then some 4 else ((f_X3_part vh_left x2 0).bind fun q_16 => ((f_X3_part vh_left x2 2).bind fun q_17 => (if q_16 = q_17 then (f_X3_findReason_L40 fu vh_groups vh_kept vh_longGroups vh_left 1 ((x2 + 1))) else (f_X3_findReason_L40 fu vh_groups vh_kept vh_longGroups vh_left x1 ((x2 + 1)))))))))
set_option maxHeartbeats 4000000 in
set_option maxRecDepth 100000 in
theorem s_X3_findReason_L40 (l : Launch) (g : bwG) (ah ah_words ah_left : Nat) (fu : Nat) : ∀ (vh_groups : Int32) (vh_kept : Int32) (vh_flourishes : Int32) (vh_longGroups : Int32) (vh_reason : Int32) (vh_sentences : Int32) (vh_left : Nat → Int32) (x1 : Int32) (x2 : Int32) (res : Int32), f_X3_findReason_L40 fu vh_groups vh_kept vh_longGroups vh_left x1 x2 = some res → bwR l g cX3_findReason 3 RX3 "findReason" (some .int) ({ frames := 2, cells := 0, slots := 0, locals := 44 } : Room) bwT (bwZ g (fun r w => r = some (.int res) ∧ w = [(ah, .inr (3, [.ref ah_words, .int vh_groups, .ref ah_left, .int vh_kept, .int vh_flourishes, .int vh_longGroups, .int vh_reason, .int vh_sentences])), (ah_left, .inl (g.2.1, 24, .inl vh_left))]) 0 0) 40 [(0, .ref ah), (1, .int x1), (2, .int x2)] [] ([(ah, .inr (3, [.ref ah_words, .int vh_groups, .ref ah_left, .int vh_kept, .int vh_flourishes, .int vh_longGroups, .int vh_reason, .int vh_sentences])), (ah_left, .inl (g.2.1, 24, .inl vh_left))]) 0 0 := by
  induction fu with
  | zero => intro vh_groups vh_kept vh_flourishes vh_longGroups vh_reason vh_sentences vh_left x1 x2 res hf; exact absurd hf (by intro h; cases h)
  | succ fu ih =>
    intro vh_groups vh_kept vh_flourishes vh_longGroups vh_reason vh_sentences vh_left x1 x2 res hf
    rw [f_X3_findReason_L40] at hf
    refine bw_iload_n 2 dX3_findReason_40 rfl rfl ?_
    refine bw_aload_n 0 dX3_findReason_41 rfl rfl ?_
    refine bw_gf bkX3 0 3 (by decide) fl_X3_22 rfl rfl dX3_findReason_42 ?_
    refine bw_iconst 3 dX3_findReason_45 (by decide) ?_
    refine bw_idiv dX3_findReason_46 (by decide) ?_
    refine bw_icmp_ge 83 dX3_findReason_47 (by decide) (fun c_12 => ?_) (fun c_12 => ?_)
    · have hf := bw_pos c_12 hf
      refine bw_iload_n 1 dX3_findReason_83 rfl rfl ?_
      refine bw_if_eq 91 dX3_findReason_84 (by decide) (fun c_13 => ?_) (fun c_13 => ?_)
      · have hf := bw_pos c_13 hf
        refine bw_iconst 0 dX3_findReason_91 (by decide) ?_
        cases Option.some.inj hf
        exact bw_ret rfl rfl (Nat.le_of_ble_eq_true rfl) (Nat.le_of_ble_eq_true rfl) dX3_findReason_92 ⟨rfl, rfl⟩
      · have hf := bw_neg c_13 hf
        refine bw_iconst 5 dX3_findReason_87 (by decide) ?_
        refine bw_goto 92 dX3_findReason_88 (by decide) ?_
        cases Option.some.inj hf
        exact bw_ret rfl rfl (Nat.le_of_ble_eq_true rfl) (Nat.le_of_ble_eq_true rfl) dX3_findReason_92 ⟨rfl, rfl⟩
    · have hf := bw_neg c_12 hf
      refine bw_aload_n 0 dX3_findReason_50 rfl rfl ?_
      refine bw_iload_n 2 dX3_findReason_51 rfl rfl ?_
      obtain ⟨q_14, hc_14, hf⟩ := bw_bind hf
      refine bw_callV [.int x2] [] [] 0 3 (s_X3_isInOrder l g ah ah_words ah_left vh_groups vh_kept vh_flourishes vh_longGroups vh_reason vh_sentences vh_left x2 _ hc_14) rfl co_X3_isInOrder ini_X3 ml_X3_93 im_X3_isInOrder se_X3_isInOrder ar_X3_isInOrder ⟨Nat.le_of_ble_eq_true rfl, Nat.le_of_ble_eq_true rfl⟩ ⟨Nat.le_of_ble_eq_true rfl, Nat.le_of_ble_eq_true rfl⟩ rfl rfl (bw_pick1 2 [0, 1] rfl rfl (by decide)) (Nat.le_of_ble_eq_true rfl) dX3_findReason_52 (fun r w1 hq => ?_)
      obtain ⟨rfl, rfl⟩ := hq
      refine bw_perm (ws1 := [(ah, .inr (3, [.ref ah_words, .int vh_groups, .ref ah_left, .int vh_kept, .int vh_flourishes, .int vh_longGroups, .int vh_reason, .int vh_sentences])), (ah_left, .inl (g.2.1, 24, .inl vh_left))]) (bw_pick1 2 [0, 1] rfl rfl (by decide)) ?_
      refine bw_st (st1 := [.int q_14]) rfl ?_
      refine bw_if_ne 60 dX3_findReason_55 (by decide) (fun c_15 => ?_) (fun c_15 => ?_)
      · have hf := bw_neg c_15 hf
        refine bw_aload_n 0 dX3_findReason_60 rfl rfl ?_
        refine bw_iload_n 2 dX3_findReason_61 rfl rfl ?_
        refine bw_iconst 0 dX3_findReason_62 (by decide) ?_
        obtain ⟨q_16, hc_16, hf⟩ := bw_bind hf
        refine bw_callV [.int x2, .int 0] [] [] 0 3 (s_X3_part l g ah ah_words ah_left vh_groups vh_kept vh_flourishes vh_longGroups vh_reason vh_sentences vh_left x2 0 _ hc_16) rfl co_X3_part ini_X3 ml_X3_96 im_X3_part se_X3_part ar_X3_part ⟨Nat.le_of_ble_eq_true rfl, Nat.le_of_ble_eq_true rfl⟩ ⟨Nat.le_of_ble_eq_true rfl, Nat.le_of_ble_eq_true rfl⟩ rfl rfl (bw_pick1 2 [0, 1] rfl rfl (by decide)) (Nat.le_of_ble_eq_true rfl) dX3_findReason_63 (fun r w1 hq => ?_)
        obtain ⟨rfl, rfl⟩ := hq
        refine bw_perm (ws1 := [(ah, .inr (3, [.ref ah_words, .int vh_groups, .ref ah_left, .int vh_kept, .int vh_flourishes, .int vh_longGroups, .int vh_reason, .int vh_sentences])), (ah_left, .inl (g.2.1, 24, .inl vh_left))]) (bw_pick1 2 [0, 1] rfl rfl (by decide)) ?_
        refine bw_st (st1 := [.int q_16]) rfl ?_
        refine bw_aload_n 0 dX3_findReason_66 rfl rfl ?_
        refine bw_iload_n 2 dX3_findReason_67 rfl rfl ?_
        refine bw_iconst 2 dX3_findReason_68 (by decide) ?_
        obtain ⟨q_17, hc_17, hf⟩ := bw_bind hf
        refine bw_callV [.int x2, .int 2] [.int q_16] [] 0 3 (s_X3_part l g ah ah_words ah_left vh_groups vh_kept vh_flourishes vh_longGroups vh_reason vh_sentences vh_left x2 2 _ hc_17) rfl co_X3_part ini_X3 ml_X3_96 im_X3_part se_X3_part ar_X3_part ⟨Nat.le_of_ble_eq_true rfl, Nat.le_of_ble_eq_true rfl⟩ ⟨Nat.le_of_ble_eq_true rfl, Nat.le_of_ble_eq_true rfl⟩ rfl rfl (bw_pick1 2 [0, 1] rfl rfl (by decide)) (Nat.le_of_ble_eq_true rfl) dX3_findReason_69 (fun r w1 hq => ?_)
        obtain ⟨rfl, rfl⟩ := hq
        refine bw_perm (ws1 := [(ah, .inr (3, [.ref ah_words, .int vh_groups, .ref ah_left, .int vh_kept, .int vh_flourishes, .int vh_longGroups, .int vh_reason, .int vh_sentences])), (ah_left, .inl (g.2.1, 24, .inl vh_left))]) (bw_pick1 2 [0, 1] rfl rfl (by decide)) ?_
        refine bw_st (st1 := [.int q_17, .int q_16]) rfl ?_
        refine bw_icmp_ne 77 dX3_findReason_72 (by decide) (fun c_18 => ?_) (fun c_18 => ?_)
        · have hf := bw_neg c_18 hf
          refine bw_iinc 2 (x2 + 1) [(2, .int ((x2 + 1))), (0, .ref ah), (1, .int x1)] dX3_findReason_77 rfl rfl (by decide) rfl ?_
          refine bw_goto 40 dX3_findReason_80 (by decide) ?_
          refine bw_lv [1, 2, 0] rfl ?_
          exact ih vh_groups vh_kept vh_flourishes vh_longGroups vh_reason vh_sentences vh_left x1 ((x2 + 1)) _ hf
        · have hf := bw_pos c_18 hf
          refine bw_iconst 1 dX3_findReason_75 (by decide) ?_
          refine bw_istore_n [(1, .int 1), (0, .ref ah), (2, .int x2)] dX3_findReason_76 rfl (by decide) rfl ?_
          refine bw_iinc 2 (x2 + 1) [(2, .int ((x2 + 1))), (1, .int 1), (0, .ref ah)] dX3_findReason_77 rfl rfl (by decide) rfl ?_
          refine bw_goto 40 dX3_findReason_80 (by decide) ?_
          refine bw_lv [2, 1, 0] rfl ?_
          exact ih vh_groups vh_kept vh_flourishes vh_longGroups vh_reason vh_sentences vh_left 1 ((x2 + 1)) _ hf
      · have hf := bw_pos c_15 hf
        refine bw_iconst 4 dX3_findReason_58 (by decide) ?_
        cases Option.some.inj hf
        exact bw_ret rfl rfl (Nat.le_of_ble_eq_true rfl) (Nat.le_of_ble_eq_true rfl) dX3_findReason_59 ⟨rfl, rfl⟩
theorem ar_X3_findReason : yX3_findReason.cls ≠ "java/lang/invoke/MethodHandle" ∧ yX3_findReason.cls ≠ "java/lang/invoke/VarHandle" ∧ (parseMethodDescriptor yX3_findReason.desc).map (fun d => d.parameters.length) = some 0 := ⟨by decide, by decide, by decide +kernel⟩
def f_X3_findReason (vh_groups : Int32) (vh_kept : Int32) (vh_longGroups : Int32) (vh_left : Nat → Int32)  : Option (Int32) := (if vh_groups = 0 then some 1 else (if vh_longGroups ≤ 0 then (if vh_kept = 0 then some 3 else (if (vh_kept - vh_kept / 3 * 3) = 0 then (f_X3_findReason_L40 bw_F vh_groups vh_kept vh_longGroups vh_left 0 0) else some 3)) else some 2))
set_option maxHeartbeats 4000000 in
set_option maxRecDepth 100000 in
theorem s_X3_findReason (l : Launch) (g : bwG) (ah ah_words ah_left : Nat) (vh_groups : Int32) (vh_kept : Int32) (vh_flourishes : Int32) (vh_longGroups : Int32) (vh_reason : Int32) (vh_sentences : Int32) (vh_left : Nat → Int32)  (res : Int32) (hf : f_X3_findReason vh_groups vh_kept vh_longGroups vh_left  = some res) : bwS l g yX3_findReason cX3_findReason 3 (some .int) ({ frames := 2, cells := 0, slots := 0, locals := 44 } : Room) [.ref ah] ([(ah, .inr (3, [.ref ah_words, .int vh_groups, .ref ah_left, .int vh_kept, .int vh_flourishes, .int vh_longGroups, .int vh_reason, .int vh_sentences])), (ah_left, .inl (g.2.1, 24, .inl vh_left))]) (fun r w => r = some (.int res) ∧ w = [(ah, .inr (3, [.ref ah_words, .int vh_groups, .ref ah_left, .int vh_kept, .int vh_flourishes, .int vh_longGroups, .int vh_reason, .int vh_sentences])), (ah_left, .inl (g.2.1, 24, .inl vh_left))]) := by
  refine bwS_of (by decide) (Nat.le_of_ble_eq_true rfl) ?_
  unfold f_X3_findReason at hf
  show bwR l g cX3_findReason 3 RX3 "findReason" (some .int) ({ frames := 2, cells := 0, slots := 0, locals := 44 } : Room) bwT (bwZ g (fun r w => r = some (.int res) ∧ w = [(ah, .inr (3, [.ref ah_words, .int vh_groups, .ref ah_left, .int vh_kept, .int vh_flourishes, .int vh_longGroups, .int vh_reason, .int vh_sentences])), (ah_left, .inl (g.2.1, 24, .inl vh_left))]) 0 0) 0 [(0, .ref ah)] [] ([(ah, .inr (3, [.ref ah_words, .int vh_groups, .ref ah_left, .int vh_kept, .int vh_flourishes, .int vh_longGroups, .int vh_reason, .int vh_sentences])), (ah_left, .inl (g.2.1, 24, .inl vh_left))]) 0 0
  refine bw_aload_n 0 dX3_findReason_0 rfl rfl ?_
  refine bw_gf bkX3 0 1 (by decide) fl_X3_15 rfl rfl dX3_findReason_1 ?_
  refine bw_if_ne 9 dX3_findReason_4 (by decide) (fun c_19 => ?_) (fun c_19 => ?_)
  · have hf := bw_neg c_19 hf
    refine bw_aload_n 0 dX3_findReason_9 rfl rfl ?_
    refine bw_gf bkX3 0 5 (by decide) fl_X3_28 rfl rfl dX3_findReason_10 ?_
    refine bw_if_le 18 dX3_findReason_13 (by decide) (fun c_20 => ?_) (fun c_20 => ?_)
    · have hf := bw_pos c_20 hf
      refine bw_aload_n 0 dX3_findReason_18 rfl rfl ?_
      refine bw_gf bkX3 0 3 (by decide) fl_X3_22 rfl rfl dX3_findReason_19 ?_
      refine bw_if_eq 34 dX3_findReason_22 (by decide) (fun c_21 => ?_) (fun c_21 => ?_)
      · have hf := bw_pos c_21 hf
        refine bw_iconst 3 dX3_findReason_34 (by decide) ?_
        cases Option.some.inj hf
        exact bw_ret rfl rfl (Nat.le_of_ble_eq_true rfl) (Nat.le_of_ble_eq_true rfl) dX3_findReason_35 ⟨rfl, rfl⟩
      · have hf := bw_neg c_21 hf
        refine bw_aload_n 0 dX3_findReason_25 rfl rfl ?_
        refine bw_gf bkX3 0 3 (by decide) fl_X3_22 rfl rfl dX3_findReason_26 ?_
        refine bw_iconst 3 dX3_findReason_29 (by decide) ?_
        refine bw_irem dX3_findReason_30 (by decide) ?_
        refine bw_if_eq 36 dX3_findReason_31 (by decide) (fun c_22 => ?_) (fun c_22 => ?_)
        · have hf := bw_pos c_22 hf
          refine bw_iconst 0 dX3_findReason_36 (by decide) ?_
          refine bw_istore_n [(1, .int 0), (0, .ref ah)] dX3_findReason_37 rfl (by decide) rfl ?_
          refine bw_iconst 0 dX3_findReason_38 (by decide) ?_
          refine bw_istore_n [(2, .int 0), (1, .int 0), (0, .ref ah)] dX3_findReason_39 rfl (by decide) rfl ?_
          refine bw_lv [2, 1, 0] rfl ?_
          exact s_X3_findReason_L40 l g ah ah_words ah_left bw_F vh_groups vh_kept vh_flourishes vh_longGroups vh_reason vh_sentences vh_left 0 0 _ hf
        · have hf := bw_neg c_22 hf
          refine bw_iconst 3 dX3_findReason_34 (by decide) ?_
          cases Option.some.inj hf
          exact bw_ret rfl rfl (Nat.le_of_ble_eq_true rfl) (Nat.le_of_ble_eq_true rfl) dX3_findReason_35 ⟨rfl, rfl⟩
    · have hf := bw_neg c_20 hf
      refine bw_iconst 2 dX3_findReason_16 (by decide) ?_
      cases Option.some.inj hf
      exact bw_ret rfl rfl (Nat.le_of_ble_eq_true rfl) (Nat.le_of_ble_eq_true rfl) dX3_findReason_17 ⟨rfl, rfl⟩
  · have hf := bw_pos c_19 hf
    refine bw_iconst 1 dX3_findReason_7 (by decide) ?_
    cases Option.some.inj hf
    exact bw_ret rfl rfl (Nat.le_of_ble_eq_true rfl) (Nat.le_of_ble_eq_true rfl) dX3_findReason_8 ⟨rfl, rfl⟩
theorem ar_X3_look : yX3_look.cls ≠ "java/lang/invoke/MethodHandle" ∧ yX3_look.cls ≠ "java/lang/invoke/VarHandle" ∧ (parseMethodDescriptor yX3_look.desc).map (fun d => d.parameters.length) = some 2 := ⟨by decide, by decide, by decide +kernel⟩
def f_X3_look (vh_groups : Int32) (vh_kept : Int32) (vh_flourishes : Int32) (vh_longGroups : Int32) (vh_reason : Int32) (vh_sentences : Int32) (vh_words : Nat → Int32) (vh_left : Nat → Int32) (vp0_bows : Int32) (vp0_settings : Nat → Int32) (vp0_numbers : Nat → Int32) (vp0_pauses : Nat → Int32) (p1 : Int32) : Option ((Int32) × (Int32) × (Int32) × (Int32) × (Int32) × (Int32) × (Nat → Int32) × (Nat → Int32)) := ((f_X3_findGroups vh_groups vh_words vp0_bows vp0_settings vp0_numbers vp0_pauses p1).bind fun q_5 => ((f_X3_leaveOutFlourishes q_5.1 vh_kept vh_flourishes vh_longGroups q_5.2 vh_left).bind fun q_6 => ((f_X3_findReason q_5.1 q_6.1 q_6.2.2.1 q_6.2.2.2).bind fun q_7 => (if q_7 = 0 then some (q_5.1, q_6.1, q_6.2.1, q_6.2.2.1, q_7, (q_6.1 / 3), q_5.2, q_6.2.2.2) else some (q_5.1, q_6.1, q_6.2.1, q_6.2.2.1, q_7, 0, q_5.2, q_6.2.2.2)))))
set_option maxHeartbeats 4000000 in
set_option maxRecDepth 100000 in
theorem s_X3_look (l : Launch) (g : bwG) (ah ah_words ah_left ap0 ap0_settings ap0_eyes ap0_favours ap0_numbers ap0_pauses : Nat) (vh_groups : Int32) (vh_kept : Int32) (vh_flourishes : Int32) (vh_longGroups : Int32) (vh_reason : Int32) (vh_sentences : Int32) (vh_words : Nat → Int32) (vh_left : Nat → Int32) (vp0_bows : Int32) (vp0_given : Int32) (vp0_taken : Int32) (vp0_settings : Nat → Int32) (vp0_numbers : Nat → Int32) (vp0_pauses : Nat → Int32) (p1 : Int32) (res : (Int32) × (Int32) × (Int32) × (Int32) × (Int32) × (Int32) × (Nat → Int32) × (Nat → Int32)) (hf : f_X3_look vh_groups vh_kept vh_flourishes vh_longGroups vh_reason vh_sentences vh_words vh_left vp0_bows vp0_settings vp0_numbers vp0_pauses p1 = some res) : bwS l g yX3_look cX3_look 3 none ({ frames := 3, cells := 0, slots := 0, locals := 69 } : Room) [.ref ah, .ref ap0, .int p1] ([(ah, .inr (3, [.ref ah_words, .int vh_groups, .ref ah_left, .int vh_kept, .int vh_flourishes, .int vh_longGroups, .int vh_reason, .int vh_sentences])), (ah_words, .inl (g.2.1, 24, .inl vh_words)), (ah_left, .inl (g.2.1, 24, .inl vh_left)), (ap0, .inr (0, [.ref ap0_settings, .ref ap0_eyes, .ref ap0_favours, .ref ap0_numbers, .ref ap0_pauses, .int vp0_bows, .int vp0_given, .int vp0_taken])), (ap0_settings, .inl (g.2.1, 3, .inl vp0_settings)), (ap0_numbers, .inl (g.2.1, 24, .inl vp0_numbers)), (ap0_pauses, .inl (g.2.1, 24, .inl vp0_pauses))]) (fun r w => r = none ∧ w = [(ah, .inr (3, [.ref ah_words, .int res.1, .ref ah_left, .int res.2.1, .int res.2.2.1, .int res.2.2.2.1, .int res.2.2.2.2.1, .int res.2.2.2.2.2.1])), (ah_words, .inl (g.2.1, 24, .inl res.2.2.2.2.2.2.1)), (ah_left, .inl (g.2.1, 24, .inl res.2.2.2.2.2.2.2)), (ap0, .inr (0, [.ref ap0_settings, .ref ap0_eyes, .ref ap0_favours, .ref ap0_numbers, .ref ap0_pauses, .int vp0_bows, .int vp0_given, .int vp0_taken])), (ap0_settings, .inl (g.2.1, 3, .inl vp0_settings)), (ap0_numbers, .inl (g.2.1, 24, .inl vp0_numbers)), (ap0_pauses, .inl (g.2.1, 24, .inl vp0_pauses))]) := by
  refine bwS_of (by decide) (Nat.le_of_ble_eq_true rfl) ?_
  unfold f_X3_look at hf
  show bwR l g cX3_look 3 RX3 "look" none ({ frames := 3, cells := 0, slots := 0, locals := 69 } : Room) bwT (bwZ g (fun r w => r = none ∧ w = [(ah, .inr (3, [.ref ah_words, .int res.1, .ref ah_left, .int res.2.1, .int res.2.2.1, .int res.2.2.2.1, .int res.2.2.2.2.1, .int res.2.2.2.2.2.1])), (ah_words, .inl (g.2.1, 24, .inl res.2.2.2.2.2.2.1)), (ah_left, .inl (g.2.1, 24, .inl res.2.2.2.2.2.2.2)), (ap0, .inr (0, [.ref ap0_settings, .ref ap0_eyes, .ref ap0_favours, .ref ap0_numbers, .ref ap0_pauses, .int vp0_bows, .int vp0_given, .int vp0_taken])), (ap0_settings, .inl (g.2.1, 3, .inl vp0_settings)), (ap0_numbers, .inl (g.2.1, 24, .inl vp0_numbers)), (ap0_pauses, .inl (g.2.1, 24, .inl vp0_pauses))]) 0 0) 0 [(0, .ref ah), (1, .ref ap0), (2, .int p1)] [] ([(ah, .inr (3, [.ref ah_words, .int vh_groups, .ref ah_left, .int vh_kept, .int vh_flourishes, .int vh_longGroups, .int vh_reason, .int vh_sentences])), (ah_words, .inl (g.2.1, 24, .inl vh_words)), (ah_left, .inl (g.2.1, 24, .inl vh_left)), (ap0, .inr (0, [.ref ap0_settings, .ref ap0_eyes, .ref ap0_favours, .ref ap0_numbers, .ref ap0_pauses, .int vp0_bows, .int vp0_given, .int vp0_taken])), (ap0_settings, .inl (g.2.1, 3, .inl vp0_settings)), (ap0_numbers, .inl (g.2.1, 24, .inl vp0_numbers)), (ap0_pauses, .inl (g.2.1, 24, .inl vp0_pauses))]) 0 0
  refine bw_aload_n 0 dX3_look_0 rfl rfl ?_
  refine bw_aload_n 1 dX3_look_1 rfl rfl ?_
  refine bw_iload_n 2 dX3_look_2 rfl rfl ?_
  obtain ⟨q_5, hc_5, hf⟩ := bw_bind hf
  refine bw_callV [.ref ap0, .int p1] [] [(ah_left, .inl (g.2.1, 24, .inl vh_left))] 0 3 (s_X3_findGroups l g ah ah_words ah_left ap0 ap0_settings ap0_eyes ap0_favours ap0_numbers ap0_pauses vh_groups vh_kept vh_flourishes vh_longGroups vh_reason vh_sentences vh_words vp0_bows vp0_given vp0_taken vp0_settings vp0_numbers vp0_pauses p1 _ hc_5) rfl co_X3_findGroups ini_X3 ml_X3_37 im_X3_findGroups se_X3_findGroups ar_X3_findGroups ⟨Nat.le_of_ble_eq_true rfl, Nat.le_of_ble_eq_true rfl⟩ ⟨Nat.le_of_ble_eq_true rfl, Nat.le_of_ble_eq_true rfl⟩ rfl rfl (bw_pick1 7 [0, 1, 3, 4, 5, 6, 2] rfl rfl (by decide)) (Nat.le_of_ble_eq_true rfl) dX3_look_3 (fun r w1 hq => ?_)
  obtain ⟨rfl, rfl⟩ := hq
  refine bw_perm (ws1 := [(ah, .inr (3, [.ref ah_words, .int q_5.1, .ref ah_left, .int vh_kept, .int vh_flourishes, .int vh_longGroups, .int vh_reason, .int vh_sentences])), (ah_words, .inl (g.2.1, 24, .inl q_5.2)), (ah_left, .inl (g.2.1, 24, .inl vh_left)), (ap0, .inr (0, [.ref ap0_settings, .ref ap0_eyes, .ref ap0_favours, .ref ap0_numbers, .ref ap0_pauses, .int vp0_bows, .int vp0_given, .int vp0_taken])), (ap0_settings, .inl (g.2.1, 3, .inl vp0_settings)), (ap0_numbers, .inl (g.2.1, 24, .inl vp0_numbers)), (ap0_pauses, .inl (g.2.1, 24, .inl vp0_pauses))]) (bw_pick1 7 [1, 2, 0, 3, 4, 5, 6] rfl rfl (by decide)) ?_
  refine bw_st (st1 := []) rfl ?_
  refine bw_aload_n 0 dX3_look_6 rfl rfl ?_
  obtain ⟨q_6, hc_6, hf⟩ := bw_bind hf
  refine bw_callV [] [] [(ap0, .inr (0, [.ref ap0_settings, .ref ap0_eyes, .ref ap0_favours, .ref ap0_numbers, .ref ap0_pauses, .int vp0_bows, .int vp0_given, .int vp0_taken])), (ap0_settings, .inl (g.2.1, 3, .inl vp0_settings)), (ap0_numbers, .inl (g.2.1, 24, .inl vp0_numbers)), (ap0_pauses, .inl (g.2.1, 24, .inl vp0_pauses))] 0 3 (s_X3_leaveOutFlourishes l g ah ah_words ah_left q_5.1 vh_kept vh_flourishes vh_longGroups vh_reason vh_sentences q_5.2 vh_left  _ hc_6) rfl co_X3_leaveOutFlourishes ini_X3 ml_X3_41 im_X3_leaveOutFlourishes se_X3_leaveOutFlourishes ar_X3_leaveOutFlourishes ⟨Nat.le_of_ble_eq_true rfl, Nat.le_of_ble_eq_true rfl⟩ ⟨Nat.le_of_ble_eq_true rfl, Nat.le_of_ble_eq_true rfl⟩ rfl rfl (bw_pick1 7 [0, 1, 2, 3, 4, 5, 6] rfl rfl (by decide)) (Nat.le_of_ble_eq_true rfl) dX3_look_7 (fun r w1 hq => ?_)
  obtain ⟨rfl, rfl⟩ := hq
  refine bw_perm (ws1 := [(ah, .inr (3, [.ref ah_words, .int q_5.1, .ref ah_left, .int q_6.1, .int q_6.2.1, .int q_6.2.2.1, .int vh_reason, .int vh_sentences])), (ah_words, .inl (g.2.1, 24, .inl q_5.2)), (ah_left, .inl (g.2.1, 24, .inl q_6.2.2.2)), (ap0, .inr (0, [.ref ap0_settings, .ref ap0_eyes, .ref ap0_favours, .ref ap0_numbers, .ref ap0_pauses, .int vp0_bows, .int vp0_given, .int vp0_taken])), (ap0_settings, .inl (g.2.1, 3, .inl vp0_settings)), (ap0_numbers, .inl (g.2.1, 24, .inl vp0_numbers)), (ap0_pauses, .inl (g.2.1, 24, .inl vp0_pauses))]) (bw_pick1 7 [4, 5, 6, 0, 1, 2, 3] rfl rfl (by decide)) ?_
  refine bw_st (st1 := []) rfl ?_
  refine bw_aload_n 0 dX3_look_10 rfl rfl ?_
  refine bw_aload_n 0 dX3_look_11 rfl rfl ?_
  obtain ⟨q_7, hc_7, hf⟩ := bw_bind hf
  refine bw_callV [] [.ref ah] [(ah_words, .inl (g.2.1, 24, .inl q_5.2)), (ap0, .inr (0, [.ref ap0_settings, .ref ap0_eyes, .ref ap0_favours, .ref ap0_numbers, .ref ap0_pauses, .int vp0_bows, .int vp0_given, .int vp0_taken])), (ap0_settings, .inl (g.2.1, 3, .inl vp0_settings)), (ap0_numbers, .inl (g.2.1, 24, .inl vp0_numbers)), (ap0_pauses, .inl (g.2.1, 24, .inl vp0_pauses))] 0 3 (s_X3_findReason l g ah ah_words ah_left q_5.1 q_6.1 q_6.2.1 q_6.2.2.1 vh_reason vh_sentences q_6.2.2.2  _ hc_7) rfl co_X3_findReason ini_X3 ml_X3_44 im_X3_findReason se_X3_findReason ar_X3_findReason ⟨Nat.le_of_ble_eq_true rfl, Nat.le_of_ble_eq_true rfl⟩ ⟨Nat.le_of_ble_eq_true rfl, Nat.le_of_ble_eq_true rfl⟩ rfl rfl (bw_pick1 7 [0, 2, 1, 3, 4, 5, 6] rfl rfl (by decide)) (Nat.le_of_ble_eq_true rfl) dX3_look_12 (fun r w1 hq => ?_)
  obtain ⟨rfl, rfl⟩ := hq
  refine bw_perm (ws1 := [(ah, .inr (3, [.ref ah_words, .int q_5.1, .ref ah_left, .int q_6.1, .int q_6.2.1, .int q_6.2.2.1, .int vh_reason, .int vh_sentences])), (ah_words, .inl (g.2.1, 24, .inl q_5.2)), (ah_left, .inl (g.2.1, 24, .inl q_6.2.2.2)), (ap0, .inr (0, [.ref ap0_settings, .ref ap0_eyes, .ref ap0_favours, .ref ap0_numbers, .ref ap0_pauses, .int vp0_bows, .int vp0_given, .int vp0_taken])), (ap0_settings, .inl (g.2.1, 3, .inl vp0_settings)), (ap0_numbers, .inl (g.2.1, 24, .inl vp0_numbers)), (ap0_pauses, .inl (g.2.1, 24, .inl vp0_pauses))]) (bw_pick1 7 [5, 0, 6, 1, 2, 3, 4] rfl rfl (by decide)) ?_
  refine bw_st (st1 := [.int q_7, .ref ah]) rfl ?_
  refine bw_pf bkX3 0 6 ([(ah, .inr (3, [.ref ah_words, .int q_5.1, .ref ah_left, .int q_6.1, .int q_6.2.1, .int q_6.2.2.1, .int q_7, .int vh_sentences])), (ah_words, .inl (g.2.1, 24, .inl q_5.2)), (ah_left, .inl (g.2.1, 24, .inl q_6.2.2.2)), (ap0, .inr (0, [.ref ap0_settings, .ref ap0_eyes, .ref ap0_favours, .ref ap0_numbers, .ref ap0_pauses, .int vp0_bows, .int vp0_given, .int vp0_taken])), (ap0_settings, .inl (g.2.1, 3, .inl vp0_settings)), (ap0_numbers, .inl (g.2.1, 24, .inl vp0_numbers)), (ap0_pauses, .inl (g.2.1, 24, .inl vp0_pauses))]) (by decide) fl_X3_31 rfl rfl rfl rfl rfl (Nat.le_of_ble_eq_true rfl) rfl dX3_look_15 ?_
  refine bw_aload_n 0 dX3_look_18 rfl rfl ?_
  refine bw_aload_n 0 dX3_look_19 rfl rfl ?_
  refine bw_gf bkX3 0 6 (by decide) fl_X3_31 rfl rfl dX3_look_20 ?_
  refine bw_if_ne 35 dX3_look_23 (by decide) (fun c_8 => ?_) (fun c_8 => ?_)
  · have hf := bw_neg c_8 hf
    refine bw_iconst 0 dX3_look_35 (by decide) ?_
    refine bw_pf bkX3 0 7 ([(ah, .inr (3, [.ref ah_words, .int q_5.1, .ref ah_left, .int q_6.1, .int q_6.2.1, .int q_6.2.2.1, .int q_7, .int 0])), (ah_words, .inl (g.2.1, 24, .inl q_5.2)), (ah_left, .inl (g.2.1, 24, .inl q_6.2.2.2)), (ap0, .inr (0, [.ref ap0_settings, .ref ap0_eyes, .ref ap0_favours, .ref ap0_numbers, .ref ap0_pauses, .int vp0_bows, .int vp0_given, .int vp0_taken])), (ap0_settings, .inl (g.2.1, 3, .inl vp0_settings)), (ap0_numbers, .inl (g.2.1, 24, .inl vp0_numbers)), (ap0_pauses, .inl (g.2.1, 24, .inl vp0_pauses))]) (by decide) fl_X3_34 rfl rfl rfl rfl rfl (Nat.le_of_ble_eq_true rfl) rfl dX3_look_36 ?_
    cases Option.some.inj hf
    exact bw_vret rfl (Nat.le_of_ble_eq_true rfl) (Nat.le_of_ble_eq_true rfl) dX3_look_39 ⟨rfl, rfl⟩
  · have hf := bw_pos c_8 hf
    refine bw_aload_n 0 dX3_look_26 rfl rfl ?_
    refine bw_gf bkX3 0 3 (by decide) fl_X3_22 rfl rfl dX3_look_27 ?_
    refine bw_iconst 3 dX3_look_30 (by decide) ?_
    refine bw_idiv dX3_look_31 (by decide) ?_
    refine bw_goto 36 dX3_look_32 (by decide) ?_
    refine bw_pf bkX3 0 7 ([(ah, .inr (3, [.ref ah_words, .int q_5.1, .ref ah_left, .int q_6.1, .int q_6.2.1, .int q_6.2.2.1, .int q_7, .int ((q_6.1 / 3))])), (ah_words, .inl (g.2.1, 24, .inl q_5.2)), (ah_left, .inl (g.2.1, 24, .inl q_6.2.2.2)), (ap0, .inr (0, [.ref ap0_settings, .ref ap0_eyes, .ref ap0_favours, .ref ap0_numbers, .ref ap0_pauses, .int vp0_bows, .int vp0_given, .int vp0_taken])), (ap0_settings, .inl (g.2.1, 3, .inl vp0_settings)), (ap0_numbers, .inl (g.2.1, 24, .inl vp0_numbers)), (ap0_pauses, .inl (g.2.1, 24, .inl vp0_pauses))]) (by decide) fl_X3_34 rfl rfl rfl rfl rfl (Nat.le_of_ble_eq_true rfl) rfl dX3_look_36 ?_
    cases Option.some.inj hf
    exact bw_vret rfl (Nat.le_of_ble_eq_true rfl) (Nat.le_of_ble_eq_true rfl) dX3_look_39 ⟨rfl, rfl⟩
theorem ar_X3_isKind : yX3_isKind.cls ≠ "java/lang/invoke/MethodHandle" ∧ yX3_isKind.cls ≠ "java/lang/invoke/VarHandle" ∧ (parseMethodDescriptor yX3_isKind.desc).map (fun d => d.parameters.length) = some 1 := ⟨by decide, by decide, by decide +kernel⟩
def f_X3_isKind (vh_left : Nat → Int32) (p0 : Int32) : Option (Int32) := ((f_X3_part vh_left p0 1).bind fun q_3 => (if (q_3 - q_3 / 2 * 2) = 0 then some 1 else some 0))
set_option maxHeartbeats 4000000 in
set_option maxRecDepth 100000 in
theorem s_X3_isKind (l : Launch) (g : bwG) (ah ah_words ah_left : Nat) (vh_groups : Int32) (vh_kept : Int32) (vh_flourishes : Int32) (vh_longGroups : Int32) (vh_reason : Int32) (vh_sentences : Int32) (vh_left : Nat → Int32) (p0 : Int32) (res : Int32) (hf : f_X3_isKind vh_left p0 = some res) : bwS l g yX3_isKind cX3_isKind 2 (some .boolean) ({ frames := 1, cells := 0, slots := 0, locals := 23 } : Room) [.ref ah, .int p0] ([(ah, .inr (3, [.ref ah_words, .int vh_groups, .ref ah_left, .int vh_kept, .int vh_flourishes, .int vh_longGroups, .int vh_reason, .int vh_sentences])), (ah_left, .inl (g.2.1, 24, .inl vh_left))]) (fun r w => r = some (.int res) ∧ w = [(ah, .inr (3, [.ref ah_words, .int vh_groups, .ref ah_left, .int vh_kept, .int vh_flourishes, .int vh_longGroups, .int vh_reason, .int vh_sentences])), (ah_left, .inl (g.2.1, 24, .inl vh_left))]) := by
  refine bwS_of (by decide) (Nat.le_of_ble_eq_true rfl) ?_
  unfold f_X3_isKind at hf
  show bwR l g cX3_isKind 2 RX3 "isKind" (some .boolean) ({ frames := 1, cells := 0, slots := 0, locals := 23 } : Room) bwT (bwZ g (fun r w => r = some (.int res) ∧ w = [(ah, .inr (3, [.ref ah_words, .int vh_groups, .ref ah_left, .int vh_kept, .int vh_flourishes, .int vh_longGroups, .int vh_reason, .int vh_sentences])), (ah_left, .inl (g.2.1, 24, .inl vh_left))]) 0 0) 0 [(0, .ref ah), (1, .int p0)] [] ([(ah, .inr (3, [.ref ah_words, .int vh_groups, .ref ah_left, .int vh_kept, .int vh_flourishes, .int vh_longGroups, .int vh_reason, .int vh_sentences])), (ah_left, .inl (g.2.1, 24, .inl vh_left))]) 0 0
  refine bw_aload_n 0 dX3_isKind_0 rfl rfl ?_
  refine bw_iload_n 1 dX3_isKind_1 rfl rfl ?_
  refine bw_iconst 1 dX3_isKind_2 (by decide) ?_
  obtain ⟨q_3, hc_3, hf⟩ := bw_bind hf
  refine bw_callV [.int p0, .int 1] [] [] 0 3 (s_X3_part l g ah ah_words ah_left vh_groups vh_kept vh_flourishes vh_longGroups vh_reason vh_sentences vh_left p0 1 _ hc_3) rfl co_X3_part ini_X3 ml_X3_96 im_X3_part se_X3_part ar_X3_part ⟨Nat.le_of_ble_eq_true rfl, Nat.le_of_ble_eq_true rfl⟩ ⟨Nat.le_of_ble_eq_true rfl, Nat.le_of_ble_eq_true rfl⟩ rfl rfl (bw_pick1 2 [0, 1] rfl rfl (by decide)) (Nat.le_of_ble_eq_true rfl) dX3_isKind_3 (fun r w1 hq => ?_)
  obtain ⟨rfl, rfl⟩ := hq
  refine bw_perm (ws1 := [(ah, .inr (3, [.ref ah_words, .int vh_groups, .ref ah_left, .int vh_kept, .int vh_flourishes, .int vh_longGroups, .int vh_reason, .int vh_sentences])), (ah_left, .inl (g.2.1, 24, .inl vh_left))]) (bw_pick1 2 [0, 1] rfl rfl (by decide)) ?_
  refine bw_st (st1 := [.int q_3]) rfl ?_
  refine bw_iconst 2 dX3_isKind_6 (by decide) ?_
  refine bw_irem dX3_isKind_7 (by decide) ?_
  refine bw_if_ne 15 dX3_isKind_8 (by decide) (fun c_4 => ?_) (fun c_4 => ?_)
  · have hf := bw_neg c_4 hf
    refine bw_iconst 0 dX3_isKind_15 (by decide) ?_
    cases Option.some.inj hf
    exact bw_ret rfl rfl (Nat.le_of_ble_eq_true rfl) (Nat.le_of_ble_eq_true rfl) dX3_isKind_16 ⟨rfl, rfl⟩
  · have hf := bw_pos c_4 hf
    refine bw_iconst 1 dX3_isKind_11 (by decide) ?_
    refine bw_goto 16 dX3_isKind_12 (by decide) ?_
    cases Option.some.inj hf
    exact bw_ret rfl rfl (Nat.le_of_ble_eq_true rfl) (Nat.le_of_ble_eq_true rfl) dX3_isKind_16 ⟨rfl, rfl⟩
def f_X3_saysTheSameAs_L15 : Nat → (Int32) → (Nat → Int32) → (Int32) → (Nat → Int32) → (Int32) → Option (Int32)
  | 0, _, _, _, _, _ => none
  | fu + 1, vh_sentences, vh_left, vp0_sentences, vp0_left, x2 => (if (3 * vh_sentences) ≤ x2 then some 1 else ((f_X4_at 24 vh_left x2).bind fun q_7 => ((f_X4_at 24 vp0_left x2).bind fun q_8 => (if q_7 = q_8 then (f_X3_saysTheSameAs_L15 fu vh_sentences vh_left vp0_sentences vp0_left ((x2 + 1))) else some 0))))
set_option maxHeartbeats 4000000 in
set_option maxRecDepth 100000 in
theorem s_X3_saysTheSameAs_L15 (l : Launch) (g : bwG) (ah ah_words ah_left ap0 ap0_words ap0_left : Nat) (fu : Nat) : ∀ (vh_groups : Int32) (vh_kept : Int32) (vh_flourishes : Int32) (vh_longGroups : Int32) (vh_reason : Int32) (vh_sentences : Int32) (vh_left : Nat → Int32) (vp0_groups : Int32) (vp0_kept : Int32) (vp0_flourishes : Int32) (vp0_longGroups : Int32) (vp0_reason : Int32) (vp0_sentences : Int32) (vp0_left : Nat → Int32) (x2 : Int32) (res : Int32), f_X3_saysTheSameAs_L15 fu vh_sentences vh_left vp0_sentences vp0_left x2 = some res → bwR l g cX3_saysTheSameAs 3 RX3 "saysTheSameAs" (some .boolean) ({ frames := 1, cells := 0, slots := 0, locals := 21 } : Room) bwT (bwZ g (fun r w => r = some (.int res) ∧ w = [(ah, .inr (3, [.ref ah_words, .int vh_groups, .ref ah_left, .int vh_kept, .int vh_flourishes, .int vh_longGroups, .int vh_reason, .int vh_sentences])), (ah_left, .inl (g.2.1, 24, .inl vh_left)), (ap0, .inr (3, [.ref ap0_words, .int vp0_groups, .ref ap0_left, .int vp0_kept, .int vp0_flourishes, .int vp0_longGroups, .int vp0_reason, .int vp0_sentences])), (ap0_left, .inl (g.2.1, 24, .inl vp0_left))]) 0 0) 15 [(0, .ref ah), (1, .ref ap0), (2, .int x2)] [] ([(ah, .inr (3, [.ref ah_words, .int vh_groups, .ref ah_left, .int vh_kept, .int vh_flourishes, .int vh_longGroups, .int vh_reason, .int vh_sentences])), (ah_left, .inl (g.2.1, 24, .inl vh_left)), (ap0, .inr (3, [.ref ap0_words, .int vp0_groups, .ref ap0_left, .int vp0_kept, .int vp0_flourishes, .int vp0_longGroups, .int vp0_reason, .int vp0_sentences])), (ap0_left, .inl (g.2.1, 24, .inl vp0_left))]) 0 0 := by
  induction fu with
  | zero => intro vh_groups vh_kept vh_flourishes vh_longGroups vh_reason vh_sentences vh_left vp0_groups vp0_kept vp0_flourishes vp0_longGroups vp0_reason vp0_sentences vp0_left x2 res hf; exact absurd hf (by intro h; cases h)
  | succ fu ih =>
    intro vh_groups vh_kept vh_flourishes vh_longGroups vh_reason vh_sentences vh_left vp0_groups vp0_kept vp0_flourishes vp0_longGroups vp0_reason vp0_sentences vp0_left x2 res hf
    rw [f_X3_saysTheSameAs_L15] at hf
    refine bw_iload_n 2 dX3_saysTheSameAs_15 rfl rfl ?_
    refine bw_iconst 3 dX3_saysTheSameAs_16 (by decide) ?_
    refine bw_aload_n 0 dX3_saysTheSameAs_17 rfl rfl ?_
    refine bw_gf bkX3 0 7 (by decide) fl_X3_34 rfl rfl dX3_saysTheSameAs_18 ?_
    refine bw_imul dX3_saysTheSameAs_21 ?_
    refine bw_icmp_ge 52 dX3_saysTheSameAs_22 (by decide) (fun c_6 => ?_) (fun c_6 => ?_)
    · have hf := bw_pos c_6 hf
      refine bw_iconst 1 dX3_saysTheSameAs_52 (by decide) ?_
      cases Option.some.inj hf
      exact bw_ret rfl rfl (Nat.le_of_ble_eq_true rfl) (Nat.le_of_ble_eq_true rfl) dX3_saysTheSameAs_53 ⟨rfl, rfl⟩
    · have hf := bw_neg c_6 hf
      refine bw_aload_n 0 dX3_saysTheSameAs_25 rfl rfl ?_
      refine bw_gf bkX3 0 2 (by decide) fl_X3_19 rfl rfl dX3_saysTheSameAs_26 ?_
      refine bw_iload_n 2 dX3_saysTheSameAs_29 rfl rfl ?_
      obtain ⟨q_7, hc_7, hf⟩ := bw_bind hf
      refine bw_callSN "BowSpeeches" [.ref ah_left, .int x2] [] [(ah, .inr (3, [.ref ah_words, .int vh_groups, .ref ah_left, .int vh_kept, .int vh_flourishes, .int vh_longGroups, .int vh_reason, .int vh_sentences])), (ap0, .inr (3, [.ref ap0_words, .int vp0_groups, .ref ap0_left, .int vp0_kept, .int vp0_flourishes, .int vp0_longGroups, .int vp0_reason, .int vp0_sentences])), (ap0_left, .inl (g.2.1, 24, .inl vp0_left))] (s_X4_at l g ah_left 24 vh_left x2 _ hc_7) rfl co_X4_at ini_X4 mn_X3_64 st_X4_at ar_X4_at ⟨Nat.le_of_ble_eq_true rfl, Nat.le_of_ble_eq_true rfl⟩ ⟨Nat.le_of_ble_eq_true rfl, Nat.le_of_ble_eq_true rfl⟩ (bw_pick1 4 [1, 0, 2, 3] rfl rfl (by decide)) (Nat.le_of_ble_eq_true rfl) dX3_saysTheSameAs_30 (fun r w1 hq => ?_)
      obtain ⟨rfl, rfl⟩ := hq
      refine bw_perm (ws1 := [(ah, .inr (3, [.ref ah_words, .int vh_groups, .ref ah_left, .int vh_kept, .int vh_flourishes, .int vh_longGroups, .int vh_reason, .int vh_sentences])), (ah_left, .inl (g.2.1, 24, .inl vh_left)), (ap0, .inr (3, [.ref ap0_words, .int vp0_groups, .ref ap0_left, .int vp0_kept, .int vp0_flourishes, .int vp0_longGroups, .int vp0_reason, .int vp0_sentences])), (ap0_left, .inl (g.2.1, 24, .inl vp0_left))]) (bw_pick1 4 [0, 3, 1, 2] rfl rfl (by decide)) ?_
      refine bw_st (st1 := [.int q_7]) rfl ?_
      refine bw_aload_n 1 dX3_saysTheSameAs_33 rfl rfl ?_
      refine bw_gf bkX3 2 2 (by decide) fl_X3_19 rfl rfl dX3_saysTheSameAs_34 ?_
      refine bw_iload_n 2 dX3_saysTheSameAs_37 rfl rfl ?_
      obtain ⟨q_8, hc_8, hf⟩ := bw_bind hf
      refine bw_callSN "BowSpeeches" [.ref ap0_left, .int x2] [.int q_7] [(ah, .inr (3, [.ref ah_words, .int vh_groups, .ref ah_left, .int vh_kept, .int vh_flourishes, .int vh_longGroups, .int vh_reason, .int vh_sentences])), (ah_left, .inl (g.2.1, 24, .inl vh_left)), (ap0, .inr (3, [.ref ap0_words, .int vp0_groups, .ref ap0_left, .int vp0_kept, .int vp0_flourishes, .int vp0_longGroups, .int vp0_reason, .int vp0_sentences]))] (s_X4_at l g ap0_left 24 vp0_left x2 _ hc_8) rfl co_X4_at ini_X4 mn_X3_64 st_X4_at ar_X4_at ⟨Nat.le_of_ble_eq_true rfl, Nat.le_of_ble_eq_true rfl⟩ ⟨Nat.le_of_ble_eq_true rfl, Nat.le_of_ble_eq_true rfl⟩ (bw_pick1 4 [3, 0, 1, 2] rfl rfl (by decide)) (Nat.le_of_ble_eq_true rfl) dX3_saysTheSameAs_38 (fun r w1 hq => ?_)
      obtain ⟨rfl, rfl⟩ := hq
      refine bw_perm (ws1 := [(ah, .inr (3, [.ref ah_words, .int vh_groups, .ref ah_left, .int vh_kept, .int vh_flourishes, .int vh_longGroups, .int vh_reason, .int vh_sentences])), (ah_left, .inl (g.2.1, 24, .inl vh_left)), (ap0, .inr (3, [.ref ap0_words, .int vp0_groups, .ref ap0_left, .int vp0_kept, .int vp0_flourishes, .int vp0_longGroups, .int vp0_reason, .int vp0_sentences])), (ap0_left, .inl (g.2.1, 24, .inl vp0_left))]) (bw_pick1 4 [0, 1, 2, 3] rfl rfl (by decide)) ?_
      refine bw_st (st1 := [.int q_8, .int q_7]) rfl ?_
      refine bw_icmp_eq 46 dX3_saysTheSameAs_41 (by decide) (fun c_9 => ?_) (fun c_9 => ?_)
      · have hf := bw_pos c_9 hf
        refine bw_iinc 2 (x2 + 1) [(2, .int ((x2 + 1))), (0, .ref ah), (1, .ref ap0)] dX3_saysTheSameAs_46 rfl rfl (by decide) rfl ?_
        refine bw_goto 15 dX3_saysTheSameAs_49 (by decide) ?_
        refine bw_lv [1, 2, 0] rfl ?_
        exact ih vh_groups vh_kept vh_flourishes vh_longGroups vh_reason vh_sentences vh_left vp0_groups vp0_kept vp0_flourishes vp0_longGroups vp0_reason vp0_sentences vp0_left ((x2 + 1)) _ hf
      · have hf := bw_neg c_9 hf
        refine bw_iconst 0 dX3_saysTheSameAs_44 (by decide) ?_
        cases Option.some.inj hf
        exact bw_ret rfl rfl (Nat.le_of_ble_eq_true rfl) (Nat.le_of_ble_eq_true rfl) dX3_saysTheSameAs_45 ⟨rfl, rfl⟩
theorem ar_X3_saysTheSameAs : yX3_saysTheSameAs.cls ≠ "java/lang/invoke/MethodHandle" ∧ yX3_saysTheSameAs.cls ≠ "java/lang/invoke/VarHandle" ∧ (parseMethodDescriptor yX3_saysTheSameAs.desc).map (fun d => d.parameters.length) = some 1 := ⟨by decide, by decide, by decide +kernel⟩
def f_X3_saysTheSameAs (vh_sentences : Int32) (vh_left : Nat → Int32) (vp0_sentences : Int32) (vp0_left : Nat → Int32)  : Option (Int32) := (if vh_sentences = vp0_sentences then (f_X3_saysTheSameAs_L15 bw_F vh_sentences vh_left vp0_sentences vp0_left 0) else some 0)
set_option maxHeartbeats 4000000 in
set_option maxRecDepth 100000 in
theorem s_X3_saysTheSameAs (l : Launch) (g : bwG) (ah ah_words ah_left ap0 ap0_words ap0_left : Nat) (vh_groups : Int32) (vh_kept : Int32) (vh_flourishes : Int32) (vh_longGroups : Int32) (vh_reason : Int32) (vh_sentences : Int32) (vh_left : Nat → Int32) (vp0_groups : Int32) (vp0_kept : Int32) (vp0_flourishes : Int32) (vp0_longGroups : Int32) (vp0_reason : Int32) (vp0_sentences : Int32) (vp0_left : Nat → Int32)  (res : Int32) (hf : f_X3_saysTheSameAs vh_sentences vh_left vp0_sentences vp0_left  = some res) : bwS l g yX3_saysTheSameAs cX3_saysTheSameAs 3 (some .boolean) ({ frames := 1, cells := 0, slots := 0, locals := 21 } : Room) [.ref ah, .ref ap0] ([(ah, .inr (3, [.ref ah_words, .int vh_groups, .ref ah_left, .int vh_kept, .int vh_flourishes, .int vh_longGroups, .int vh_reason, .int vh_sentences])), (ah_left, .inl (g.2.1, 24, .inl vh_left)), (ap0, .inr (3, [.ref ap0_words, .int vp0_groups, .ref ap0_left, .int vp0_kept, .int vp0_flourishes, .int vp0_longGroups, .int vp0_reason, .int vp0_sentences])), (ap0_left, .inl (g.2.1, 24, .inl vp0_left))]) (fun r w => r = some (.int res) ∧ w = [(ah, .inr (3, [.ref ah_words, .int vh_groups, .ref ah_left, .int vh_kept, .int vh_flourishes, .int vh_longGroups, .int vh_reason, .int vh_sentences])), (ah_left, .inl (g.2.1, 24, .inl vh_left)), (ap0, .inr (3, [.ref ap0_words, .int vp0_groups, .ref ap0_left, .int vp0_kept, .int vp0_flourishes, .int vp0_longGroups, .int vp0_reason, .int vp0_sentences])), (ap0_left, .inl (g.2.1, 24, .inl vp0_left))]) := by
  refine bwS_of (by decide) (Nat.le_of_ble_eq_true rfl) ?_
  unfold f_X3_saysTheSameAs at hf
  show bwR l g cX3_saysTheSameAs 3 RX3 "saysTheSameAs" (some .boolean) ({ frames := 1, cells := 0, slots := 0, locals := 21 } : Room) bwT (bwZ g (fun r w => r = some (.int res) ∧ w = [(ah, .inr (3, [.ref ah_words, .int vh_groups, .ref ah_left, .int vh_kept, .int vh_flourishes, .int vh_longGroups, .int vh_reason, .int vh_sentences])), (ah_left, .inl (g.2.1, 24, .inl vh_left)), (ap0, .inr (3, [.ref ap0_words, .int vp0_groups, .ref ap0_left, .int vp0_kept, .int vp0_flourishes, .int vp0_longGroups, .int vp0_reason, .int vp0_sentences])), (ap0_left, .inl (g.2.1, 24, .inl vp0_left))]) 0 0) 0 [(0, .ref ah), (1, .ref ap0)] [] ([(ah, .inr (3, [.ref ah_words, .int vh_groups, .ref ah_left, .int vh_kept, .int vh_flourishes, .int vh_longGroups, .int vh_reason, .int vh_sentences])), (ah_left, .inl (g.2.1, 24, .inl vh_left)), (ap0, .inr (3, [.ref ap0_words, .int vp0_groups, .ref ap0_left, .int vp0_kept, .int vp0_flourishes, .int vp0_longGroups, .int vp0_reason, .int vp0_sentences])), (ap0_left, .inl (g.2.1, 24, .inl vp0_left))]) 0 0
  refine bw_aload_n 0 dX3_saysTheSameAs_0 rfl rfl ?_
  refine bw_gf bkX3 0 7 (by decide) fl_X3_34 rfl rfl dX3_saysTheSameAs_1 ?_
  refine bw_aload_n 1 dX3_saysTheSameAs_4 rfl rfl ?_
  refine bw_gf bkX3 2 7 (by decide) fl_X3_34 rfl rfl dX3_saysTheSameAs_5 ?_
  refine bw_icmp_eq 13 dX3_saysTheSameAs_8 (by decide) (fun c_10 => ?_) (fun c_10 => ?_)
  · have hf := bw_pos c_10 hf
    refine bw_iconst 0 dX3_saysTheSameAs_13 (by decide) ?_
    refine bw_istore_n [(2, .int 0), (0, .ref ah), (1, .ref ap0)] dX3_saysTheSameAs_14 rfl (by decide) rfl ?_
    refine bw_lv [1, 2, 0] rfl ?_
    exact s_X3_saysTheSameAs_L15 l g ah ah_words ah_left ap0 ap0_words ap0_left bw_F vh_groups vh_kept vh_flourishes vh_longGroups vh_reason vh_sentences vh_left vp0_groups vp0_kept vp0_flourishes vp0_longGroups vp0_reason vp0_sentences vp0_left 0 _ hf
  · have hf := bw_neg c_10 hf
    refine bw_iconst 0 dX3_saysTheSameAs_11 (by decide) ?_
    cases Option.some.inj hf
    exact bw_ret rfl rfl (Nat.le_of_ble_eq_true rfl) (Nat.le_of_ble_eq_true rfl) dX3_saysTheSameAs_12 ⟨rfl, rfl⟩
theorem ar_X4_areEyes : yX4_areEyes.cls ≠ "java/lang/invoke/MethodHandle" ∧ yX4_areEyes.cls ≠ "java/lang/invoke/VarHandle" ∧ (parseMethodDescriptor yX4_areEyes.desc).map (fun d => d.parameters.length) = some 1 := ⟨by decide, by decide, by decide +kernel⟩
def f_X4_areEyes  (p0 : Int32) : Option (Int32) := (if p0 < 0 then some 0 else (if 3 ≤ p0 then some 0 else some 1))
set_option maxHeartbeats 4000000 in
set_option maxRecDepth 100000 in
theorem s_X4_areEyes (l : Launch) (g : bwG)   (p0 : Int32) (res : Int32) (hf : f_X4_areEyes  p0 = some res) : bwS l g yX4_areEyes cX4_areEyes 1 (some .boolean) ({ frames := 0, cells := 0, slots := 0, locals := 0 } : Room) [.int p0] ([]) (fun r w => r = some (.int res) ∧ w = []) := by
  refine bwS_of (by decide) (Nat.le_of_ble_eq_true rfl) ?_
  unfold f_X4_areEyes at hf
  show bwR l g cX4_areEyes 1 RX4 "areEyes" (some .boolean) ({ frames := 0, cells := 0, slots := 0, locals := 0 } : Room) bwT (bwZ g (fun r w => r = some (.int res) ∧ w = []) 0 0) 0 [(0, .int p0)] [] ([]) 0 0
  refine bw_iload_n 0 dX4_areEyes_0 rfl rfl ?_
  refine bw_if_lt 13 dX4_areEyes_1 (by decide) (fun c_3 => ?_) (fun c_3 => ?_)
  · have hf := bw_pos c_3 hf
    refine bw_iconst 0 dX4_areEyes_13 (by decide) ?_
    cases Option.some.inj hf
    exact bw_ret rfl rfl (Nat.le_of_ble_eq_true rfl) (Nat.le_of_ble_eq_true rfl) dX4_areEyes_14 ⟨rfl, rfl⟩
  · have hf := bw_neg c_3 hf
    refine bw_iload_n 0 dX4_areEyes_4 rfl rfl ?_
    refine bw_iconst 3 dX4_areEyes_5 (by decide) ?_
    refine bw_icmp_ge 13 dX4_areEyes_6 (by decide) (fun c_4 => ?_) (fun c_4 => ?_)
    · have hf := bw_pos c_4 hf
      refine bw_iconst 0 dX4_areEyes_13 (by decide) ?_
      cases Option.some.inj hf
      exact bw_ret rfl rfl (Nat.le_of_ble_eq_true rfl) (Nat.le_of_ble_eq_true rfl) dX4_areEyes_14 ⟨rfl, rfl⟩
    · have hf := bw_neg c_4 hf
      refine bw_iconst 1 dX4_areEyes_9 (by decide) ?_
      refine bw_goto 14 dX4_areEyes_10 (by decide) ?_
      cases Option.some.inj hf
      exact bw_ret rfl rfl (Nat.le_of_ble_eq_true rfl) (Nat.le_of_ble_eq_true rfl) dX4_areEyes_14 ⟨rfl, rfl⟩
theorem ar_X4_speech : yX4_speech.cls ≠ "java/lang/invoke/MethodHandle" ∧ yX4_speech.cls ≠ "java/lang/invoke/VarHandle" ∧ (parseMethodDescriptor yX4_speech.desc).map (fun d => d.parameters.length) = some 2 := ⟨by decide, by decide, by decide +kernel⟩
def f_X4_speech (vh_court_bows : Int32) (vh_court_settings : Nat → Int32) (vh_court_numbers : Nat → Int32) (vh_court_pauses : Nat → Int32) (vh_seen_groups : Int32) (vh_seen_kept : Int32) (vh_seen_flourishes : Int32) (vh_seen_longGroups : Int32) (vh_seen_reason : Int32) (vh_seen_sentences : Int32) (vh_seen_words : Nat → Int32) (vh_seen_left : Nat → Int32) (p0 : Int32) (p1 : Int32) : Option (Int32 × (Int32) × (Int32) × (Int32) × (Int32) × (Int32) × (Int32) × (Nat → Int32) × (Nat → Int32)) := ((f_X4_areEyes p0).bind fun q_8 => (if q_8 = 0 then some ((-1000002), vh_seen_groups, vh_seen_kept, vh_seen_flourishes, vh_seen_longGroups, vh_seen_reason, vh_seen_sentences, vh_seen_words, vh_seen_left) else ((f_X3_look vh_seen_groups vh_seen_kept vh_seen_flourishes vh_seen_longGroups vh_seen_reason vh_seen_sentences vh_seen_words vh_seen_left vh_court_bows vh_court_settings vh_court_numbers vh_court_pauses p0).bind fun q_10 => (if p1 = 0 then some (q_10.1, q_10.1, q_10.2.1, q_10.2.2.1, q_10.2.2.2.1, q_10.2.2.2.2.1, q_10.2.2.2.2.2.1, q_10.2.2.2.2.2.2.1, q_10.2.2.2.2.2.2.2) else (if p1 = 1 then some (q_10.2.2.2.2.1, q_10.1, q_10.2.1, q_10.2.2.1, q_10.2.2.2.1, q_10.2.2.2.2.1, q_10.2.2.2.2.2.1, q_10.2.2.2.2.2.2.1, q_10.2.2.2.2.2.2.2) else (if p1 = 2 then some (q_10.2.2.2.2.2.1, q_10.1, q_10.2.1, q_10.2.2.1, q_10.2.2.2.1, q_10.2.2.2.2.1, q_10.2.2.2.2.2.1, q_10.2.2.2.2.2.2.1, q_10.2.2.2.2.2.2.2) else (if p1 = 3 then some (q_10.2.2.1, q_10.1, q_10.2.1, q_10.2.2.1, q_10.2.2.2.1, q_10.2.2.2.2.1, q_10.2.2.2.2.2.1, q_10.2.2.2.2.2.2.1, q_10.2.2.2.2.2.2.2) else some ((-1000002), q_10.1, q_10.2.1, q_10.2.2.1, q_10.2.2.2.1, q_10.2.2.2.2.1, q_10.2.2.2.2.2.1, q_10.2.2.2.2.2.2.1, q_10.2.2.2.2.2.2.2))))))))
set_option maxHeartbeats 4000000 in
set_option maxRecDepth 100000 in
theorem s_X4_speech (l : Launch) (g : bwG) (ah ah_court ah_pad ah_history ah_slots ah_seen ah_plain ah_trial ah_court_settings ah_court_eyes ah_court_favours ah_court_numbers ah_court_pauses ah_seen_words ah_seen_left : Nat) (vh_court_bows : Int32) (vh_court_given : Int32) (vh_court_taken : Int32) (vh_court_settings : Nat → Int32) (vh_court_numbers : Nat → Int32) (vh_court_pauses : Nat → Int32) (vh_seen_groups : Int32) (vh_seen_kept : Int32) (vh_seen_flourishes : Int32) (vh_seen_longGroups : Int32) (vh_seen_reason : Int32) (vh_seen_sentences : Int32) (vh_seen_words : Nat → Int32) (vh_seen_left : Nat → Int32) (p0 : Int32) (p1 : Int32) (res : Int32 × (Int32) × (Int32) × (Int32) × (Int32) × (Int32) × (Int32) × (Nat → Int32) × (Nat → Int32)) (hf : f_X4_speech vh_court_bows vh_court_settings vh_court_numbers vh_court_pauses vh_seen_groups vh_seen_kept vh_seen_flourishes vh_seen_longGroups vh_seen_reason vh_seen_sentences vh_seen_words vh_seen_left p0 p1 = some res) : bwS l g yX4_speech cX4_speech 3 (some .int) ({ frames := 4, cells := 0, slots := 0, locals := 91 } : Room) [.ref ah, .int p0, .int p1] ([(ah, .inr (4, [.ref ah_court, .ref ah_pad, .ref ah_history, .ref ah_slots, .ref ah_seen, .ref ah_plain, .ref ah_trial])), (ah_court, .inr (0, [.ref ah_court_settings, .ref ah_court_eyes, .ref ah_court_favours, .ref ah_court_numbers, .ref ah_court_pauses, .int vh_court_bows, .int vh_court_given, .int vh_court_taken])), (ah_court_settings, .inl (g.2.1, 3, .inl vh_court_settings)), (ah_court_numbers, .inl (g.2.1, 24, .inl vh_court_numbers)), (ah_court_pauses, .inl (g.2.1, 24, .inl vh_court_pauses)), (ah_seen, .inr (3, [.ref ah_seen_words, .int vh_seen_groups, .ref ah_seen_left, .int vh_seen_kept, .int vh_seen_flourishes, .int vh_seen_longGroups, .int vh_seen_reason, .int vh_seen_sentences])), (ah_seen_words, .inl (g.2.1, 24, .inl vh_seen_words)), (ah_seen_left, .inl (g.2.1, 24, .inl vh_seen_left))]) (fun r w => r = some (.int res.1) ∧ w = [(ah, .inr (4, [.ref ah_court, .ref ah_pad, .ref ah_history, .ref ah_slots, .ref ah_seen, .ref ah_plain, .ref ah_trial])), (ah_court, .inr (0, [.ref ah_court_settings, .ref ah_court_eyes, .ref ah_court_favours, .ref ah_court_numbers, .ref ah_court_pauses, .int vh_court_bows, .int vh_court_given, .int vh_court_taken])), (ah_court_settings, .inl (g.2.1, 3, .inl vh_court_settings)), (ah_court_numbers, .inl (g.2.1, 24, .inl vh_court_numbers)), (ah_court_pauses, .inl (g.2.1, 24, .inl vh_court_pauses)), (ah_seen, .inr (3, [.ref ah_seen_words, .int res.2.1, .ref ah_seen_left, .int res.2.2.1, .int res.2.2.2.1, .int res.2.2.2.2.1, .int res.2.2.2.2.2.1, .int res.2.2.2.2.2.2.1])), (ah_seen_words, .inl (g.2.1, 24, .inl res.2.2.2.2.2.2.2.1)), (ah_seen_left, .inl (g.2.1, 24, .inl res.2.2.2.2.2.2.2.2))]) := by
  refine bwS_of (by decide) (Nat.le_of_ble_eq_true rfl) ?_
  unfold f_X4_speech at hf
  show bwR l g cX4_speech 3 RX4 "speech" (some .int) ({ frames := 4, cells := 0, slots := 0, locals := 91 } : Room) bwT (bwZ g (fun r w => r = some (.int res.1) ∧ w = [(ah, .inr (4, [.ref ah_court, .ref ah_pad, .ref ah_history, .ref ah_slots, .ref ah_seen, .ref ah_plain, .ref ah_trial])), (ah_court, .inr (0, [.ref ah_court_settings, .ref ah_court_eyes, .ref ah_court_favours, .ref ah_court_numbers, .ref ah_court_pauses, .int vh_court_bows, .int vh_court_given, .int vh_court_taken])), (ah_court_settings, .inl (g.2.1, 3, .inl vh_court_settings)), (ah_court_numbers, .inl (g.2.1, 24, .inl vh_court_numbers)), (ah_court_pauses, .inl (g.2.1, 24, .inl vh_court_pauses)), (ah_seen, .inr (3, [.ref ah_seen_words, .int res.2.1, .ref ah_seen_left, .int res.2.2.1, .int res.2.2.2.1, .int res.2.2.2.2.1, .int res.2.2.2.2.2.1, .int res.2.2.2.2.2.2.1])), (ah_seen_words, .inl (g.2.1, 24, .inl res.2.2.2.2.2.2.2.1)), (ah_seen_left, .inl (g.2.1, 24, .inl res.2.2.2.2.2.2.2.2))]) 0 0) 0 [(0, .ref ah), (1, .int p0), (2, .int p1)] [] ([(ah, .inr (4, [.ref ah_court, .ref ah_pad, .ref ah_history, .ref ah_slots, .ref ah_seen, .ref ah_plain, .ref ah_trial])), (ah_court, .inr (0, [.ref ah_court_settings, .ref ah_court_eyes, .ref ah_court_favours, .ref ah_court_numbers, .ref ah_court_pauses, .int vh_court_bows, .int vh_court_given, .int vh_court_taken])), (ah_court_settings, .inl (g.2.1, 3, .inl vh_court_settings)), (ah_court_numbers, .inl (g.2.1, 24, .inl vh_court_numbers)), (ah_court_pauses, .inl (g.2.1, 24, .inl vh_court_pauses)), (ah_seen, .inr (3, [.ref ah_seen_words, .int vh_seen_groups, .ref ah_seen_left, .int vh_seen_kept, .int vh_seen_flourishes, .int vh_seen_longGroups, .int vh_seen_reason, .int vh_seen_sentences])), (ah_seen_words, .inl (g.2.1, 24, .inl vh_seen_words)), (ah_seen_left, .inl (g.2.1, 24, .inl vh_seen_left))]) 0 0
  refine bw_iload_n 1 dX4_speech_0 rfl rfl ?_
  obtain ⟨q_8, hc_8, hf⟩ := bw_bind hf
  refine bw_callS [.int p0] [] [(ah, .inr (4, [.ref ah_court, .ref ah_pad, .ref ah_history, .ref ah_slots, .ref ah_seen, .ref ah_plain, .ref ah_trial])), (ah_court, .inr (0, [.ref ah_court_settings, .ref ah_court_eyes, .ref ah_court_favours, .ref ah_court_numbers, .ref ah_court_pauses, .int vh_court_bows, .int vh_court_given, .int vh_court_taken])), (ah_court_settings, .inl (g.2.1, 3, .inl vh_court_settings)), (ah_court_numbers, .inl (g.2.1, 24, .inl vh_court_numbers)), (ah_court_pauses, .inl (g.2.1, 24, .inl vh_court_pauses)), (ah_seen, .inr (3, [.ref ah_seen_words, .int vh_seen_groups, .ref ah_seen_left, .int vh_seen_kept, .int vh_seen_flourishes, .int vh_seen_longGroups, .int vh_seen_reason, .int vh_seen_sentences])), (ah_seen_words, .inl (g.2.1, 24, .inl vh_seen_words)), (ah_seen_left, .inl (g.2.1, 24, .inl vh_seen_left))] (s_X4_areEyes l g   p0 _ hc_8) rfl co_X4_areEyes ini_X4 ml_X4_61 st_X4_areEyes ar_X4_areEyes ⟨Nat.le_of_ble_eq_true rfl, Nat.le_of_ble_eq_true rfl⟩ ⟨Nat.le_of_ble_eq_true rfl, Nat.le_of_ble_eq_true rfl⟩ (bw_pick1 8 [0, 1, 2, 3, 4, 5, 6, 7] rfl rfl (by decide)) (Nat.le_of_ble_eq_true rfl) dX4_speech_1 (fun r w1 hq => ?_)
  obtain ⟨rfl, rfl⟩ := hq
  refine bw_perm (ws1 := [(ah, .inr (4, [.ref ah_court, .ref ah_pad, .ref ah_history, .ref ah_slots, .ref ah_seen, .ref ah_plain, .ref ah_trial])), (ah_court, .inr (0, [.ref ah_court_settings, .ref ah_court_eyes, .ref ah_court_favours, .ref ah_court_numbers, .ref ah_court_pauses, .int vh_court_bows, .int vh_court_given, .int vh_court_taken])), (ah_court_settings, .inl (g.2.1, 3, .inl vh_court_settings)), (ah_court_numbers, .inl (g.2.1, 24, .inl vh_court_numbers)), (ah_court_pauses, .inl (g.2.1, 24, .inl vh_court_pauses)), (ah_seen, .inr (3, [.ref ah_seen_words, .int vh_seen_groups, .ref ah_seen_left, .int vh_seen_kept, .int vh_seen_flourishes, .int vh_seen_longGroups, .int vh_seen_reason, .int vh_seen_sentences])), (ah_seen_words, .inl (g.2.1, 24, .inl vh_seen_words)), (ah_seen_left, .inl (g.2.1, 24, .inl vh_seen_left))]) (bw_pick1 8 [0, 1, 2, 3, 4, 5, 6, 7] rfl rfl (by decide)) ?_
  refine bw_st (st1 := [.int q_8]) rfl ?_
  refine bw_if_ne 10 dX4_speech_4 (by decide) (fun c_9 => ?_) (fun c_9 => ?_)
  · have hf := bw_neg c_9 hf
    refine bw_aload_n 0 dX4_speech_10 rfl rfl ?_
    refine bw_gf bkX4 0 4 (by decide) fl_X4_37 rfl rfl dX4_speech_11 ?_
    refine bw_aload_n 0 dX4_speech_14 rfl rfl ?_
    refine bw_gf bkX4 0 0 (by decide) fl_X4_10 rfl rfl dX4_speech_15 ?_
    refine bw_iload_n 1 dX4_speech_18 rfl rfl ?_
    obtain ⟨q_10, hc_10, hf⟩ := bw_bind hf
    refine bw_callV [.ref ah_court, .int p0] [] [(ah, .inr (4, [.ref ah_court, .ref ah_pad, .ref ah_history, .ref ah_slots, .ref ah_seen, .ref ah_plain, .ref ah_trial]))] 0 3 (s_X3_look l g ah_seen ah_seen_words ah_seen_left ah_court ah_court_settings ah_court_eyes ah_court_favours ah_court_numbers ah_court_pauses vh_seen_groups vh_seen_kept vh_seen_flourishes vh_seen_longGroups vh_seen_reason vh_seen_sentences vh_seen_words vh_seen_left vh_court_bows vh_court_given vh_court_taken vh_court_settings vh_court_numbers vh_court_pauses p0 _ hc_10) rfl co_X3_look ini_X3 ml_X4_126 im_X3_look se_X3_look ar_X3_look ⟨Nat.le_of_ble_eq_true rfl, Nat.le_of_ble_eq_true rfl⟩ ⟨Nat.le_of_ble_eq_true rfl, Nat.le_of_ble_eq_true rfl⟩ rfl rfl (bw_pick1 8 [5, 6, 7, 1, 2, 3, 4, 0] rfl rfl (by decide)) (Nat.le_of_ble_eq_true rfl) dX4_speech_19 (fun r w1 hq => ?_)
    obtain ⟨rfl, rfl⟩ := hq
    refine bw_perm (ws1 := [(ah, .inr (4, [.ref ah_court, .ref ah_pad, .ref ah_history, .ref ah_slots, .ref ah_seen, .ref ah_plain, .ref ah_trial])), (ah_court, .inr (0, [.ref ah_court_settings, .ref ah_court_eyes, .ref ah_court_favours, .ref ah_court_numbers, .ref ah_court_pauses, .int vh_court_bows, .int vh_court_given, .int vh_court_taken])), (ah_court_settings, .inl (g.2.1, 3, .inl vh_court_settings)), (ah_court_numbers, .inl (g.2.1, 24, .inl vh_court_numbers)), (ah_court_pauses, .inl (g.2.1, 24, .inl vh_court_pauses)), (ah_seen, .inr (3, [.ref ah_seen_words, .int q_10.1, .ref ah_seen_left, .int q_10.2.1, .int q_10.2.2.1, .int q_10.2.2.2.1, .int q_10.2.2.2.2.1, .int q_10.2.2.2.2.2.1])), (ah_seen_words, .inl (g.2.1, 24, .inl q_10.2.2.2.2.2.2.1)), (ah_seen_left, .inl (g.2.1, 24, .inl q_10.2.2.2.2.2.2.2))]) (bw_pick1 8 [0, 4, 5, 6, 7, 1, 2, 3] rfl rfl (by decide)) ?_
    refine bw_st (st1 := []) rfl ?_
    refine bw_iload_n 2 dX4_speech_22 rfl rfl ?_
    rcases Decidable.em (p1 = 0) with c_11 | c_11
    · have hf := bw_pos c_11 hf
      refine bw_tableIn (off := 29) 52 dX4_speech_23 (by rw [c_11]; decide) (by rw [c_11]; decide) (by rw [c_11]; rfl) (by decide) ?_
      refine bw_aload_n 0 dX4_speech_52 rfl rfl ?_
      refine bw_gf bkX4 0 4 (by decide) fl_X4_37 rfl rfl dX4_speech_53 ?_
      refine bw_gf bkX3 5 1 (by decide) fl_X4_130 rfl rfl dX4_speech_56 ?_
      cases Option.some.inj hf
      exact bw_ret rfl rfl (Nat.le_of_ble_eq_true rfl) (Nat.le_of_ble_eq_true rfl) dX4_speech_59 ⟨rfl, rfl⟩
    · have hf := bw_neg c_11 hf
      rcases Decidable.em (p1 = 1) with c_12 | c_12
      · have hf := bw_pos c_12 hf
        refine bw_tableIn (off := 37) 60 dX4_speech_23 (by rw [c_12]; decide) (by rw [c_12]; decide) (by rw [c_12]; rfl) (by decide) ?_
        refine bw_aload_n 0 dX4_speech_60 rfl rfl ?_
        refine bw_gf bkX4 0 4 (by decide) fl_X4_37 rfl rfl dX4_speech_61 ?_
        refine bw_gf bkX3 5 6 (by decide) fl_X4_133 rfl rfl dX4_speech_64 ?_
        cases Option.some.inj hf
        exact bw_ret rfl rfl (Nat.le_of_ble_eq_true rfl) (Nat.le_of_ble_eq_true rfl) dX4_speech_67 ⟨rfl, rfl⟩
      · have hf := bw_neg c_12 hf
        rcases Decidable.em (p1 = 2) with c_13 | c_13
        · have hf := bw_pos c_13 hf
          refine bw_tableIn (off := 45) 68 dX4_speech_23 (by rw [c_13]; decide) (by rw [c_13]; decide) (by rw [c_13]; rfl) (by decide) ?_
          refine bw_aload_n 0 dX4_speech_68 rfl rfl ?_
          refine bw_gf bkX4 0 4 (by decide) fl_X4_37 rfl rfl dX4_speech_69 ?_
          refine bw_gf bkX3 5 7 (by decide) fl_X4_136 rfl rfl dX4_speech_72 ?_
          cases Option.some.inj hf
          exact bw_ret rfl rfl (Nat.le_of_ble_eq_true rfl) (Nat.le_of_ble_eq_true rfl) dX4_speech_75 ⟨rfl, rfl⟩
        · have hf := bw_neg c_13 hf
          rcases Decidable.em (p1 = 3) with c_14 | c_14
          · have hf := bw_pos c_14 hf
            refine bw_tableIn (off := 53) 76 dX4_speech_23 (by rw [c_14]; decide) (by rw [c_14]; decide) (by rw [c_14]; rfl) (by decide) ?_
            refine bw_aload_n 0 dX4_speech_76 rfl rfl ?_
            refine bw_gf bkX4 0 4 (by decide) fl_X4_37 rfl rfl dX4_speech_77 ?_
            refine bw_gf bkX3 5 4 (by decide) fl_X4_139 rfl rfl dX4_speech_80 ?_
            cases Option.some.inj hf
            exact bw_ret rfl rfl (Nat.le_of_ble_eq_true rfl) (Nat.le_of_ble_eq_true rfl) dX4_speech_83 ⟨rfl, rfl⟩
          · have hf := bw_neg c_14 hf
            refine bw_tableOut 84 dX4_speech_23 (bw_out4_0 c_11 c_12 c_13 c_14) (by decide) ?_
            refine bw_ldc ct_X4_47 dX4_speech_84 ?_
            cases Option.some.inj hf
            exact bw_ret rfl rfl (Nat.le_of_ble_eq_true rfl) (Nat.le_of_ble_eq_true rfl) dX4_speech_86 ⟨rfl, rfl⟩
  · have hf := bw_pos c_9 hf
    refine bw_ldc ct_X4_47 dX4_speech_7 ?_
    cases Option.some.inj hf
    exact bw_ret rfl rfl (Nat.le_of_ble_eq_true rfl) (Nat.le_of_ble_eq_true rfl) dX4_speech_9 ⟨rfl, rfl⟩
theorem ar_X4_word : yX4_word.cls ≠ "java/lang/invoke/MethodHandle" ∧ yX4_word.cls ≠ "java/lang/invoke/VarHandle" ∧ (parseMethodDescriptor yX4_word.desc).map (fun d => d.parameters.length) = some 2 := ⟨by decide, by decide, by decide +kernel⟩
def f_X4_word (vh_court_bows : Int32) (vh_court_settings : Nat → Int32) (vh_court_numbers : Nat → Int32) (vh_court_pauses : Nat → Int32) (vh_seen_groups : Int32) (vh_seen_kept : Int32) (vh_seen_flourishes : Int32) (vh_seen_longGroups : Int32) (vh_seen_reason : Int32) (vh_seen_sentences : Int32) (vh_seen_words : Nat → Int32) (vh_seen_left : Nat → Int32) (p0 : Int32) (p1 : Int32) : Option (Int32 × (Int32) × (Int32) × (Int32) × (Int32) × (Int32) × (Int32) × (Nat → Int32) × (Nat → Int32)) := ((f_X4_areEyes p0).bind fun q_7 => (if q_7 = 0 then some ((-1000002), vh_seen_groups, vh_seen_kept, vh_seen_flourishes, vh_seen_longGroups, vh_seen_reason, vh_seen_sentences, vh_seen_words, vh_seen_left) else ((f_X3_look vh_seen_groups vh_seen_kept vh_seen_flourishes vh_seen_longGroups vh_seen_reason vh_seen_sentences vh_seen_words vh_seen_left vh_court_bows vh_court_settings vh_court_numbers vh_court_pauses p0).bind fun q_9 => (if p1 < 0 then some ((-1000001), q_9.1, q_9.2.1, q_9.2.2.1, q_9.2.2.2.1, q_9.2.2.2.2.1, q_9.2.2.2.2.2.1, q_9.2.2.2.2.2.2.1, q_9.2.2.2.2.2.2.2) else (if p1 < q_9.1 then ((f_X4_at 24 q_9.2.2.2.2.2.2.1 p1).bind fun q_12 => some (q_12, q_9.1, q_9.2.1, q_9.2.2.1, q_9.2.2.2.1, q_9.2.2.2.2.1, q_9.2.2.2.2.2.1, q_9.2.2.2.2.2.2.1, q_9.2.2.2.2.2.2.2)) else some ((-1000001), q_9.1, q_9.2.1, q_9.2.2.1, q_9.2.2.2.1, q_9.2.2.2.2.1, q_9.2.2.2.2.2.1, q_9.2.2.2.2.2.2.1, q_9.2.2.2.2.2.2.2))))))
set_option maxHeartbeats 4000000 in
set_option maxRecDepth 100000 in
theorem s_X4_word (l : Launch) (g : bwG) (ah ah_court ah_pad ah_history ah_slots ah_seen ah_plain ah_trial ah_court_settings ah_court_eyes ah_court_favours ah_court_numbers ah_court_pauses ah_seen_words ah_seen_left : Nat) (vh_court_bows : Int32) (vh_court_given : Int32) (vh_court_taken : Int32) (vh_court_settings : Nat → Int32) (vh_court_numbers : Nat → Int32) (vh_court_pauses : Nat → Int32) (vh_seen_groups : Int32) (vh_seen_kept : Int32) (vh_seen_flourishes : Int32) (vh_seen_longGroups : Int32) (vh_seen_reason : Int32) (vh_seen_sentences : Int32) (vh_seen_words : Nat → Int32) (vh_seen_left : Nat → Int32) (p0 : Int32) (p1 : Int32) (res : Int32 × (Int32) × (Int32) × (Int32) × (Int32) × (Int32) × (Int32) × (Nat → Int32) × (Nat → Int32)) (hf : f_X4_word vh_court_bows vh_court_settings vh_court_numbers vh_court_pauses vh_seen_groups vh_seen_kept vh_seen_flourishes vh_seen_longGroups vh_seen_reason vh_seen_sentences vh_seen_words vh_seen_left p0 p1 = some res) : bwS l g yX4_word cX4_word 3 (some .int) ({ frames := 4, cells := 0, slots := 0, locals := 91 } : Room) [.ref ah, .int p0, .int p1] ([(ah, .inr (4, [.ref ah_court, .ref ah_pad, .ref ah_history, .ref ah_slots, .ref ah_seen, .ref ah_plain, .ref ah_trial])), (ah_court, .inr (0, [.ref ah_court_settings, .ref ah_court_eyes, .ref ah_court_favours, .ref ah_court_numbers, .ref ah_court_pauses, .int vh_court_bows, .int vh_court_given, .int vh_court_taken])), (ah_court_settings, .inl (g.2.1, 3, .inl vh_court_settings)), (ah_court_numbers, .inl (g.2.1, 24, .inl vh_court_numbers)), (ah_court_pauses, .inl (g.2.1, 24, .inl vh_court_pauses)), (ah_seen, .inr (3, [.ref ah_seen_words, .int vh_seen_groups, .ref ah_seen_left, .int vh_seen_kept, .int vh_seen_flourishes, .int vh_seen_longGroups, .int vh_seen_reason, .int vh_seen_sentences])), (ah_seen_words, .inl (g.2.1, 24, .inl vh_seen_words)), (ah_seen_left, .inl (g.2.1, 24, .inl vh_seen_left))]) (fun r w => r = some (.int res.1) ∧ w = [(ah, .inr (4, [.ref ah_court, .ref ah_pad, .ref ah_history, .ref ah_slots, .ref ah_seen, .ref ah_plain, .ref ah_trial])), (ah_court, .inr (0, [.ref ah_court_settings, .ref ah_court_eyes, .ref ah_court_favours, .ref ah_court_numbers, .ref ah_court_pauses, .int vh_court_bows, .int vh_court_given, .int vh_court_taken])), (ah_court_settings, .inl (g.2.1, 3, .inl vh_court_settings)), (ah_court_numbers, .inl (g.2.1, 24, .inl vh_court_numbers)), (ah_court_pauses, .inl (g.2.1, 24, .inl vh_court_pauses)), (ah_seen, .inr (3, [.ref ah_seen_words, .int res.2.1, .ref ah_seen_left, .int res.2.2.1, .int res.2.2.2.1, .int res.2.2.2.2.1, .int res.2.2.2.2.2.1, .int res.2.2.2.2.2.2.1])), (ah_seen_words, .inl (g.2.1, 24, .inl res.2.2.2.2.2.2.2.1)), (ah_seen_left, .inl (g.2.1, 24, .inl res.2.2.2.2.2.2.2.2))]) := by
  refine bwS_of (by decide) (Nat.le_of_ble_eq_true rfl) ?_
  unfold f_X4_word at hf
  show bwR l g cX4_word 3 RX4 "word" (some .int) ({ frames := 4, cells := 0, slots := 0, locals := 91 } : Room) bwT (bwZ g (fun r w => r = some (.int res.1) ∧ w = [(ah, .inr (4, [.ref ah_court, .ref ah_pad, .ref ah_history, .ref ah_slots, .ref ah_seen, .ref ah_plain, .ref ah_trial])), (ah_court, .inr (0, [.ref ah_court_settings, .ref ah_court_eyes, .ref ah_court_favours, .ref ah_court_numbers, .ref ah_court_pauses, .int vh_court_bows, .int vh_court_given, .int vh_court_taken])), (ah_court_settings, .inl (g.2.1, 3, .inl vh_court_settings)), (ah_court_numbers, .inl (g.2.1, 24, .inl vh_court_numbers)), (ah_court_pauses, .inl (g.2.1, 24, .inl vh_court_pauses)), (ah_seen, .inr (3, [.ref ah_seen_words, .int res.2.1, .ref ah_seen_left, .int res.2.2.1, .int res.2.2.2.1, .int res.2.2.2.2.1, .int res.2.2.2.2.2.1, .int res.2.2.2.2.2.2.1])), (ah_seen_words, .inl (g.2.1, 24, .inl res.2.2.2.2.2.2.2.1)), (ah_seen_left, .inl (g.2.1, 24, .inl res.2.2.2.2.2.2.2.2))]) 0 0) 0 [(0, .ref ah), (1, .int p0), (2, .int p1)] [] ([(ah, .inr (4, [.ref ah_court, .ref ah_pad, .ref ah_history, .ref ah_slots, .ref ah_seen, .ref ah_plain, .ref ah_trial])), (ah_court, .inr (0, [.ref ah_court_settings, .ref ah_court_eyes, .ref ah_court_favours, .ref ah_court_numbers, .ref ah_court_pauses, .int vh_court_bows, .int vh_court_given, .int vh_court_taken])), (ah_court_settings, .inl (g.2.1, 3, .inl vh_court_settings)), (ah_court_numbers, .inl (g.2.1, 24, .inl vh_court_numbers)), (ah_court_pauses, .inl (g.2.1, 24, .inl vh_court_pauses)), (ah_seen, .inr (3, [.ref ah_seen_words, .int vh_seen_groups, .ref ah_seen_left, .int vh_seen_kept, .int vh_seen_flourishes, .int vh_seen_longGroups, .int vh_seen_reason, .int vh_seen_sentences])), (ah_seen_words, .inl (g.2.1, 24, .inl vh_seen_words)), (ah_seen_left, .inl (g.2.1, 24, .inl vh_seen_left))]) 0 0
  refine bw_iload_n 1 dX4_word_0 rfl rfl ?_
  obtain ⟨q_7, hc_7, hf⟩ := bw_bind hf
  refine bw_callS [.int p0] [] [(ah, .inr (4, [.ref ah_court, .ref ah_pad, .ref ah_history, .ref ah_slots, .ref ah_seen, .ref ah_plain, .ref ah_trial])), (ah_court, .inr (0, [.ref ah_court_settings, .ref ah_court_eyes, .ref ah_court_favours, .ref ah_court_numbers, .ref ah_court_pauses, .int vh_court_bows, .int vh_court_given, .int vh_court_taken])), (ah_court_settings, .inl (g.2.1, 3, .inl vh_court_settings)), (ah_court_numbers, .inl (g.2.1, 24, .inl vh_court_numbers)), (ah_court_pauses, .inl (g.2.1, 24, .inl vh_court_pauses)), (ah_seen, .inr (3, [.ref ah_seen_words, .int vh_seen_groups, .ref ah_seen_left, .int vh_seen_kept, .int vh_seen_flourishes, .int vh_seen_longGroups, .int vh_seen_reason, .int vh_seen_sentences])), (ah_seen_words, .inl (g.2.1, 24, .inl vh_seen_words)), (ah_seen_left, .inl (g.2.1, 24, .inl vh_seen_left))] (s_X4_areEyes l g   p0 _ hc_7) rfl co_X4_areEyes ini_X4 ml_X4_61 st_X4_areEyes ar_X4_areEyes ⟨Nat.le_of_ble_eq_true rfl, Nat.le_of_ble_eq_true rfl⟩ ⟨Nat.le_of_ble_eq_true rfl, Nat.le_of_ble_eq_true rfl⟩ (bw_pick1 8 [0, 1, 2, 3, 4, 5, 6, 7] rfl rfl (by decide)) (Nat.le_of_ble_eq_true rfl) dX4_word_1 (fun r w1 hq => ?_)
  obtain ⟨rfl, rfl⟩ := hq
  refine bw_perm (ws1 := [(ah, .inr (4, [.ref ah_court, .ref ah_pad, .ref ah_history, .ref ah_slots, .ref ah_seen, .ref ah_plain, .ref ah_trial])), (ah_court, .inr (0, [.ref ah_court_settings, .ref ah_court_eyes, .ref ah_court_favours, .ref ah_court_numbers, .ref ah_court_pauses, .int vh_court_bows, .int vh_court_given, .int vh_court_taken])), (ah_court_settings, .inl (g.2.1, 3, .inl vh_court_settings)), (ah_court_numbers, .inl (g.2.1, 24, .inl vh_court_numbers)), (ah_court_pauses, .inl (g.2.1, 24, .inl vh_court_pauses)), (ah_seen, .inr (3, [.ref ah_seen_words, .int vh_seen_groups, .ref ah_seen_left, .int vh_seen_kept, .int vh_seen_flourishes, .int vh_seen_longGroups, .int vh_seen_reason, .int vh_seen_sentences])), (ah_seen_words, .inl (g.2.1, 24, .inl vh_seen_words)), (ah_seen_left, .inl (g.2.1, 24, .inl vh_seen_left))]) (bw_pick1 8 [0, 1, 2, 3, 4, 5, 6, 7] rfl rfl (by decide)) ?_
  refine bw_st (st1 := [.int q_7]) rfl ?_
  refine bw_if_ne 10 dX4_word_4 (by decide) (fun c_8 => ?_) (fun c_8 => ?_)
  · have hf := bw_neg c_8 hf
    refine bw_aload_n 0 dX4_word_10 rfl rfl ?_
    refine bw_gf bkX4 0 4 (by decide) fl_X4_37 rfl rfl dX4_word_11 ?_
    refine bw_aload_n 0 dX4_word_14 rfl rfl ?_
    refine bw_gf bkX4 0 0 (by decide) fl_X4_10 rfl rfl dX4_word_15 ?_
    refine bw_iload_n 1 dX4_word_18 rfl rfl ?_
    obtain ⟨q_9, hc_9, hf⟩ := bw_bind hf
    refine bw_callV [.ref ah_court, .int p0] [] [(ah, .inr (4, [.ref ah_court, .ref ah_pad, .ref ah_history, .ref ah_slots, .ref ah_seen, .ref ah_plain, .ref ah_trial]))] 0 3 (s_X3_look l g ah_seen ah_seen_words ah_seen_left ah_court ah_court_settings ah_court_eyes ah_court_favours ah_court_numbers ah_court_pauses vh_seen_groups vh_seen_kept vh_seen_flourishes vh_seen_longGroups vh_seen_reason vh_seen_sentences vh_seen_words vh_seen_left vh_court_bows vh_court_given vh_court_taken vh_court_settings vh_court_numbers vh_court_pauses p0 _ hc_9) rfl co_X3_look ini_X3 ml_X4_126 im_X3_look se_X3_look ar_X3_look ⟨Nat.le_of_ble_eq_true rfl, Nat.le_of_ble_eq_true rfl⟩ ⟨Nat.le_of_ble_eq_true rfl, Nat.le_of_ble_eq_true rfl⟩ rfl rfl (bw_pick1 8 [5, 6, 7, 1, 2, 3, 4, 0] rfl rfl (by decide)) (Nat.le_of_ble_eq_true rfl) dX4_word_19 (fun r w1 hq => ?_)
    obtain ⟨rfl, rfl⟩ := hq
    refine bw_perm (ws1 := [(ah, .inr (4, [.ref ah_court, .ref ah_pad, .ref ah_history, .ref ah_slots, .ref ah_seen, .ref ah_plain, .ref ah_trial])), (ah_court, .inr (0, [.ref ah_court_settings, .ref ah_court_eyes, .ref ah_court_favours, .ref ah_court_numbers, .ref ah_court_pauses, .int vh_court_bows, .int vh_court_given, .int vh_court_taken])), (ah_court_settings, .inl (g.2.1, 3, .inl vh_court_settings)), (ah_court_numbers, .inl (g.2.1, 24, .inl vh_court_numbers)), (ah_court_pauses, .inl (g.2.1, 24, .inl vh_court_pauses)), (ah_seen, .inr (3, [.ref ah_seen_words, .int q_9.1, .ref ah_seen_left, .int q_9.2.1, .int q_9.2.2.1, .int q_9.2.2.2.1, .int q_9.2.2.2.2.1, .int q_9.2.2.2.2.2.1])), (ah_seen_words, .inl (g.2.1, 24, .inl q_9.2.2.2.2.2.2.1)), (ah_seen_left, .inl (g.2.1, 24, .inl q_9.2.2.2.2.2.2.2))]) (bw_pick1 8 [0, 4, 5, 6, 7, 1, 2, 3] rfl rfl (by decide)) ?_
    refine bw_st (st1 := []) rfl ?_
    refine bw_iload_n 2 dX4_word_22 rfl rfl ?_
    refine bw_if_lt 37 dX4_word_23 (by decide) (fun c_10 => ?_) (fun c_10 => ?_)
    · have hf := bw_pos c_10 hf
      refine bw_ldc ct_X4_60 dX4_word_37 ?_
      cases Option.some.inj hf
      exact bw_ret rfl rfl (Nat.le_of_ble_eq_true rfl) (Nat.le_of_ble_eq_true rfl) dX4_word_39 ⟨rfl, rfl⟩
    · have hf := bw_neg c_10 hf
      refine bw_iload_n 2 dX4_word_26 rfl rfl ?_
      refine bw_aload_n 0 dX4_word_27 rfl rfl ?_
      refine bw_gf bkX4 0 4 (by decide) fl_X4_37 rfl rfl dX4_word_28 ?_
      refine bw_gf bkX3 5 1 (by decide) fl_X4_130 rfl rfl dX4_word_31 ?_
      refine bw_icmp_lt 40 dX4_word_34 (by decide) (fun c_11 => ?_) (fun c_11 => ?_)
      · have hf := bw_pos c_11 hf
        refine bw_aload_n 0 dX4_word_40 rfl rfl ?_
        refine bw_gf bkX4 0 4 (by decide) fl_X4_37 rfl rfl dX4_word_41 ?_
        refine bw_gf bkX3 5 0 (by decide) fl_X4_142 rfl rfl dX4_word_44 ?_
        refine bw_iload_n 2 dX4_word_47 rfl rfl ?_
        obtain ⟨q_12, hc_12, hf⟩ := bw_bind hf
        refine bw_callS [.ref ah_seen_words, .int p1] [] [(ah, .inr (4, [.ref ah_court, .ref ah_pad, .ref ah_history, .ref ah_slots, .ref ah_seen, .ref ah_plain, .ref ah_trial])), (ah_court, .inr (0, [.ref ah_court_settings, .ref ah_court_eyes, .ref ah_court_favours, .ref ah_court_numbers, .ref ah_court_pauses, .int vh_court_bows, .int vh_court_given, .int vh_court_taken])), (ah_court_settings, .inl (g.2.1, 3, .inl vh_court_settings)), (ah_court_numbers, .inl (g.2.1, 24, .inl vh_court_numbers)), (ah_court_pauses, .inl (g.2.1, 24, .inl vh_court_pauses)), (ah_seen, .inr (3, [.ref ah_seen_words, .int q_9.1, .ref ah_seen_left, .int q_9.2.1, .int q_9.2.2.1, .int q_9.2.2.2.1, .int q_9.2.2.2.2.1, .int q_9.2.2.2.2.2.1])), (ah_seen_left, .inl (g.2.1, 24, .inl q_9.2.2.2.2.2.2.2))] (s_X4_at l g ah_seen_words 24 q_9.2.2.2.2.2.2.1 p1 _ hc_12) rfl co_X4_at ini_X4 ml_X4_145 st_X4_at ar_X4_at ⟨Nat.le_of_ble_eq_true rfl, Nat.le_of_ble_eq_true rfl⟩ ⟨Nat.le_of_ble_eq_true rfl, Nat.le_of_ble_eq_true rfl⟩ (bw_pick1 8 [6, 0, 1, 2, 3, 4, 5, 7] rfl rfl (by decide)) (Nat.le_of_ble_eq_true rfl) dX4_word_48 (fun r w1 hq => ?_)
        obtain ⟨rfl, rfl⟩ := hq
        refine bw_perm (ws1 := [(ah, .inr (4, [.ref ah_court, .ref ah_pad, .ref ah_history, .ref ah_slots, .ref ah_seen, .ref ah_plain, .ref ah_trial])), (ah_court, .inr (0, [.ref ah_court_settings, .ref ah_court_eyes, .ref ah_court_favours, .ref ah_court_numbers, .ref ah_court_pauses, .int vh_court_bows, .int vh_court_given, .int vh_court_taken])), (ah_court_settings, .inl (g.2.1, 3, .inl vh_court_settings)), (ah_court_numbers, .inl (g.2.1, 24, .inl vh_court_numbers)), (ah_court_pauses, .inl (g.2.1, 24, .inl vh_court_pauses)), (ah_seen, .inr (3, [.ref ah_seen_words, .int q_9.1, .ref ah_seen_left, .int q_9.2.1, .int q_9.2.2.1, .int q_9.2.2.2.1, .int q_9.2.2.2.2.1, .int q_9.2.2.2.2.2.1])), (ah_seen_words, .inl (g.2.1, 24, .inl q_9.2.2.2.2.2.2.1)), (ah_seen_left, .inl (g.2.1, 24, .inl q_9.2.2.2.2.2.2.2))]) (bw_pick1 8 [0, 1, 2, 3, 4, 5, 7, 6] rfl rfl (by decide)) ?_
        refine bw_st (st1 := [.int q_12]) rfl ?_
        cases Option.some.inj hf
        exact bw_ret rfl rfl (Nat.le_of_ble_eq_true rfl) (Nat.le_of_ble_eq_true rfl) dX4_word_51 ⟨rfl, rfl⟩
      · have hf := bw_neg c_11 hf
        refine bw_ldc ct_X4_60 dX4_word_37 ?_
        cases Option.some.inj hf
        exact bw_ret rfl rfl (Nat.le_of_ble_eq_true rfl) (Nat.le_of_ble_eq_true rfl) dX4_word_39 ⟨rfl, rfl⟩
  · have hf := bw_pos c_8 hf
    refine bw_ldc ct_X4_47 dX4_word_7 ?_
    cases Option.some.inj hf
    exact bw_ret rfl rfl (Nat.le_of_ble_eq_true rfl) (Nat.le_of_ble_eq_true rfl) dX4_word_9 ⟨rfl, rfl⟩
theorem ar_X4_sentence : yX4_sentence.cls ≠ "java/lang/invoke/MethodHandle" ∧ yX4_sentence.cls ≠ "java/lang/invoke/VarHandle" ∧ (parseMethodDescriptor yX4_sentence.desc).map (fun d => d.parameters.length) = some 3 := ⟨by decide, by decide, by decide +kernel⟩
def f_X4_sentence (vh_court_bows : Int32) (vh_court_settings : Nat → Int32) (vh_court_numbers : Nat → Int32) (vh_court_pauses : Nat → Int32) (vh_seen_groups : Int32) (vh_seen_kept : Int32) (vh_seen_flourishes : Int32) (vh_seen_longGroups : Int32) (vh_seen_reason : Int32) (vh_seen_sentences : Int32) (vh_seen_words : Nat → Int32) (vh_seen_left : Nat → Int32) (p0 : Int32) (p1 : Int32) (p2 : Int32) : Option (Int32 × (Int32) × (Int32) × (Int32) × (Int32) × (Int32) × (Int32) × (Nat → Int32) × (Nat → Int32)) := ((f_X4_areEyes p0).bind fun q_12 => (if q_12 = 0 then some ((-1000002), vh_seen_groups, vh_seen_kept, vh_seen_flourishes, vh_seen_longGroups, vh_seen_reason, vh_seen_sentences, vh_seen_words, vh_seen_left) else (if p2 < 0 then some ((-1000002), vh_seen_groups, vh_seen_kept, vh_seen_flourishes, vh_seen_longGroups, vh_seen_reason, vh_seen_sentences, vh_seen_words, vh_seen_left) else (if p2 ≤ 3 then ((f_X3_look vh_seen_groups vh_seen_kept vh_seen_flourishes vh_seen_longGroups vh_seen_reason vh_seen_sentences vh_seen_words vh_seen_left vh_court_bows vh_court_settings vh_court_numbers vh_court_pauses p0).bind fun q_16 => (if p1 < 0 then some ((-1000001), q_16.1, q_16.2.1, q_16.2.2.1, q_16.2.2.2.1, q_16.2.2.2.2.1, q_16.2.2.2.2.2.1, q_16.2.2.2.2.2.2.1, q_16.2.2.2.2.2.2.2) else (if p1 < q_16.2.2.2.2.2.1 then (if p2 = 3 then ((f_X3_isKind q_16.2.2.2.2.2.2.2 p1).bind fun q_21 => (if q_21 = 0 then some (0, q_16.1, q_16.2.1, q_16.2.2.1, q_16.2.2.2.1, q_16.2.2.2.2.1, q_16.2.2.2.2.2.1, q_16.2.2.2.2.2.2.1, q_16.2.2.2.2.2.2.2) else some (1, q_16.1, q_16.2.1, q_16.2.2.1, q_16.2.2.2.1, q_16.2.2.2.2.1, q_16.2.2.2.2.2.1, q_16.2.2.2.2.2.2.1, q_16.2.2.2.2.2.2.2))) else ((f_X3_part q_16.2.2.2.2.2.2.2 p1 p2).bind fun q_20 => some (q_20, q_16.1, q_16.2.1, q_16.2.2.1, q_16.2.2.2.1, q_16.2.2.2.2.1, q_16.2.2.2.2.2.1, q_16.2.2.2.2.2.2.1, q_16.2.2.2.2.2.2.2))) else some ((-1000001), q_16.1, q_16.2.1, q_16.2.2.1, q_16.2.2.2.1, q_16.2.2.2.2.1, q_16.2.2.2.2.2.1, q_16.2.2.2.2.2.2.1, q_16.2.2.2.2.2.2.2)))) else some ((-1000002), vh_seen_groups, vh_seen_kept, vh_seen_flourishes, vh_seen_longGroups, vh_seen_reason, vh_seen_sentences, vh_seen_words, vh_seen_left)))))
set_option maxHeartbeats 4000000 in
set_option maxRecDepth 100000 in
theorem s_X4_sentence (l : Launch) (g : bwG) (ah ah_court ah_pad ah_history ah_slots ah_seen ah_plain ah_trial ah_court_settings ah_court_eyes ah_court_favours ah_court_numbers ah_court_pauses ah_seen_words ah_seen_left : Nat) (vh_court_bows : Int32) (vh_court_given : Int32) (vh_court_taken : Int32) (vh_court_settings : Nat → Int32) (vh_court_numbers : Nat → Int32) (vh_court_pauses : Nat → Int32) (vh_seen_groups : Int32) (vh_seen_kept : Int32) (vh_seen_flourishes : Int32) (vh_seen_longGroups : Int32) (vh_seen_reason : Int32) (vh_seen_sentences : Int32) (vh_seen_words : Nat → Int32) (vh_seen_left : Nat → Int32) (p0 : Int32) (p1 : Int32) (p2 : Int32) (res : Int32 × (Int32) × (Int32) × (Int32) × (Int32) × (Int32) × (Int32) × (Nat → Int32) × (Nat → Int32)) (hf : f_X4_sentence vh_court_bows vh_court_settings vh_court_numbers vh_court_pauses vh_seen_groups vh_seen_kept vh_seen_flourishes vh_seen_longGroups vh_seen_reason vh_seen_sentences vh_seen_words vh_seen_left p0 p1 p2 = some res) : bwS l g yX4_sentence cX4_sentence 4 (some .int) ({ frames := 4, cells := 0, slots := 0, locals := 91 } : Room) [.ref ah, .int p0, .int p1, .int p2] ([(ah, .inr (4, [.ref ah_court, .ref ah_pad, .ref ah_history, .ref ah_slots, .ref ah_seen, .ref ah_plain, .ref ah_trial])), (ah_court, .inr (0, [.ref ah_court_settings, .ref ah_court_eyes, .ref ah_court_favours, .ref ah_court_numbers, .ref ah_court_pauses, .int vh_court_bows, .int vh_court_given, .int vh_court_taken])), (ah_court_settings, .inl (g.2.1, 3, .inl vh_court_settings)), (ah_court_numbers, .inl (g.2.1, 24, .inl vh_court_numbers)), (ah_court_pauses, .inl (g.2.1, 24, .inl vh_court_pauses)), (ah_seen, .inr (3, [.ref ah_seen_words, .int vh_seen_groups, .ref ah_seen_left, .int vh_seen_kept, .int vh_seen_flourishes, .int vh_seen_longGroups, .int vh_seen_reason, .int vh_seen_sentences])), (ah_seen_words, .inl (g.2.1, 24, .inl vh_seen_words)), (ah_seen_left, .inl (g.2.1, 24, .inl vh_seen_left))]) (fun r w => r = some (.int res.1) ∧ w = [(ah, .inr (4, [.ref ah_court, .ref ah_pad, .ref ah_history, .ref ah_slots, .ref ah_seen, .ref ah_plain, .ref ah_trial])), (ah_court, .inr (0, [.ref ah_court_settings, .ref ah_court_eyes, .ref ah_court_favours, .ref ah_court_numbers, .ref ah_court_pauses, .int vh_court_bows, .int vh_court_given, .int vh_court_taken])), (ah_court_settings, .inl (g.2.1, 3, .inl vh_court_settings)), (ah_court_numbers, .inl (g.2.1, 24, .inl vh_court_numbers)), (ah_court_pauses, .inl (g.2.1, 24, .inl vh_court_pauses)), (ah_seen, .inr (3, [.ref ah_seen_words, .int res.2.1, .ref ah_seen_left, .int res.2.2.1, .int res.2.2.2.1, .int res.2.2.2.2.1, .int res.2.2.2.2.2.1, .int res.2.2.2.2.2.2.1])), (ah_seen_words, .inl (g.2.1, 24, .inl res.2.2.2.2.2.2.2.1)), (ah_seen_left, .inl (g.2.1, 24, .inl res.2.2.2.2.2.2.2.2))]) := by
  refine bwS_of (by decide) (Nat.le_of_ble_eq_true rfl) ?_
  unfold f_X4_sentence at hf
  show bwR l g cX4_sentence 4 RX4 "sentence" (some .int) ({ frames := 4, cells := 0, slots := 0, locals := 91 } : Room) bwT (bwZ g (fun r w => r = some (.int res.1) ∧ w = [(ah, .inr (4, [.ref ah_court, .ref ah_pad, .ref ah_history, .ref ah_slots, .ref ah_seen, .ref ah_plain, .ref ah_trial])), (ah_court, .inr (0, [.ref ah_court_settings, .ref ah_court_eyes, .ref ah_court_favours, .ref ah_court_numbers, .ref ah_court_pauses, .int vh_court_bows, .int vh_court_given, .int vh_court_taken])), (ah_court_settings, .inl (g.2.1, 3, .inl vh_court_settings)), (ah_court_numbers, .inl (g.2.1, 24, .inl vh_court_numbers)), (ah_court_pauses, .inl (g.2.1, 24, .inl vh_court_pauses)), (ah_seen, .inr (3, [.ref ah_seen_words, .int res.2.1, .ref ah_seen_left, .int res.2.2.1, .int res.2.2.2.1, .int res.2.2.2.2.1, .int res.2.2.2.2.2.1, .int res.2.2.2.2.2.2.1])), (ah_seen_words, .inl (g.2.1, 24, .inl res.2.2.2.2.2.2.2.1)), (ah_seen_left, .inl (g.2.1, 24, .inl res.2.2.2.2.2.2.2.2))]) 0 0) 0 [(0, .ref ah), (1, .int p0), (2, .int p1), (3, .int p2)] [] ([(ah, .inr (4, [.ref ah_court, .ref ah_pad, .ref ah_history, .ref ah_slots, .ref ah_seen, .ref ah_plain, .ref ah_trial])), (ah_court, .inr (0, [.ref ah_court_settings, .ref ah_court_eyes, .ref ah_court_favours, .ref ah_court_numbers, .ref ah_court_pauses, .int vh_court_bows, .int vh_court_given, .int vh_court_taken])), (ah_court_settings, .inl (g.2.1, 3, .inl vh_court_settings)), (ah_court_numbers, .inl (g.2.1, 24, .inl vh_court_numbers)), (ah_court_pauses, .inl (g.2.1, 24, .inl vh_court_pauses)), (ah_seen, .inr (3, [.ref ah_seen_words, .int vh_seen_groups, .ref ah_seen_left, .int vh_seen_kept, .int vh_seen_flourishes, .int vh_seen_longGroups, .int vh_seen_reason, .int vh_seen_sentences])), (ah_seen_words, .inl (g.2.1, 24, .inl vh_seen_words)), (ah_seen_left, .inl (g.2.1, 24, .inl vh_seen_left))]) 0 0
  refine bw_iload_n 1 dX4_sentence_0 rfl rfl ?_
  obtain ⟨q_12, hc_12, hf⟩ := bw_bind hf
  refine bw_callS [.int p0] [] [(ah, .inr (4, [.ref ah_court, .ref ah_pad, .ref ah_history, .ref ah_slots, .ref ah_seen, .ref ah_plain, .ref ah_trial])), (ah_court, .inr (0, [.ref ah_court_settings, .ref ah_court_eyes, .ref ah_court_favours, .ref ah_court_numbers, .ref ah_court_pauses, .int vh_court_bows, .int vh_court_given, .int vh_court_taken])), (ah_court_settings, .inl (g.2.1, 3, .inl vh_court_settings)), (ah_court_numbers, .inl (g.2.1, 24, .inl vh_court_numbers)), (ah_court_pauses, .inl (g.2.1, 24, .inl vh_court_pauses)), (ah_seen, .inr (3, [.ref ah_seen_words, .int vh_seen_groups, .ref ah_seen_left, .int vh_seen_kept, .int vh_seen_flourishes, .int vh_seen_longGroups, .int vh_seen_reason, .int vh_seen_sentences])), (ah_seen_words, .inl (g.2.1, 24, .inl vh_seen_words)), (ah_seen_left, .inl (g.2.1, 24, .inl vh_seen_left))] (s_X4_areEyes l g   p0 _ hc_12) rfl co_X4_areEyes ini_X4 ml_X4_61 st_X4_areEyes ar_X4_areEyes ⟨Nat.le_of_ble_eq_true rfl, Nat.le_of_ble_eq_true rfl⟩ ⟨Nat.le_of_ble_eq_true rfl, Nat.le_of_ble_eq_true rfl⟩ (bw_pick1 8 [0, 1, 2, 3, 4, 5, 6, 7] rfl rfl (by decide)) (Nat.le_of_ble_eq_true rfl) dX4_sentence_1 (fun r w1 hq => ?_)
  obtain ⟨rfl, rfl⟩ := hq
  refine bw_perm (ws1 := [(ah, .inr (4, [.ref ah_court, .ref ah_pad, .ref ah_history, .ref ah_slots, .ref ah_seen, .ref ah_plain, .ref ah_trial])), (ah_court, .inr (0, [.ref ah_court_settings, .ref ah_court_eyes, .ref ah_court_favours, .ref ah_court_numbers, .ref ah_court_pauses, .int vh_court_bows, .int vh_court_given, .int vh_court_taken])), (ah_court_settings, .inl (g.2.1, 3, .inl vh_court_settings)), (ah_court_numbers, .inl (g.2.1, 24, .inl vh_court_numbers)), (ah_court_pauses, .inl (g.2.1, 24, .inl vh_court_pauses)), (ah_seen, .inr (3, [.ref ah_seen_words, .int vh_seen_groups, .ref ah_seen_left, .int vh_seen_kept, .int vh_seen_flourishes, .int vh_seen_longGroups, .int vh_seen_reason, .int vh_seen_sentences])), (ah_seen_words, .inl (g.2.1, 24, .inl vh_seen_words)), (ah_seen_left, .inl (g.2.1, 24, .inl vh_seen_left))]) (bw_pick1 8 [0, 1, 2, 3, 4, 5, 6, 7] rfl rfl (by decide)) ?_
  refine bw_st (st1 := [.int q_12]) rfl ?_
  refine bw_if_eq 16 dX4_sentence_4 (by decide) (fun c_13 => ?_) (fun c_13 => ?_)
  · have hf := bw_pos c_13 hf
    refine bw_ldc ct_X4_47 dX4_sentence_16 ?_
    cases Option.some.inj hf
    exact bw_ret rfl rfl (Nat.le_of_ble_eq_true rfl) (Nat.le_of_ble_eq_true rfl) dX4_sentence_18 ⟨rfl, rfl⟩
  · have hf := bw_neg c_13 hf
    refine bw_iload_n 3 dX4_sentence_7 rfl rfl ?_
    refine bw_if_lt 16 dX4_sentence_8 (by decide) (fun c_14 => ?_) (fun c_14 => ?_)
    · have hf := bw_pos c_14 hf
      refine bw_ldc ct_X4_47 dX4_sentence_16 ?_
      cases Option.some.inj hf
      exact bw_ret rfl rfl (Nat.le_of_ble_eq_true rfl) (Nat.le_of_ble_eq_true rfl) dX4_sentence_18 ⟨rfl, rfl⟩
    · have hf := bw_neg c_14 hf
      refine bw_iload_n 3 dX4_sentence_11 rfl rfl ?_
      refine bw_iconst 3 dX4_sentence_12 (by decide) ?_
      refine bw_icmp_le 19 dX4_sentence_13 (by decide) (fun c_15 => ?_) (fun c_15 => ?_)
      · have hf := bw_pos c_15 hf
        refine bw_aload_n 0 dX4_sentence_19 rfl rfl ?_
        refine bw_gf bkX4 0 4 (by decide) fl_X4_37 rfl rfl dX4_sentence_20 ?_
        refine bw_aload_n 0 dX4_sentence_23 rfl rfl ?_
        refine bw_gf bkX4 0 0 (by decide) fl_X4_10 rfl rfl dX4_sentence_24 ?_
        refine bw_iload_n 1 dX4_sentence_27 rfl rfl ?_
        obtain ⟨q_16, hc_16, hf⟩ := bw_bind hf
        refine bw_callV [.ref ah_court, .int p0] [] [(ah, .inr (4, [.ref ah_court, .ref ah_pad, .ref ah_history, .ref ah_slots, .ref ah_seen, .ref ah_plain, .ref ah_trial]))] 0 3 (s_X3_look l g ah_seen ah_seen_words ah_seen_left ah_court ah_court_settings ah_court_eyes ah_court_favours ah_court_numbers ah_court_pauses vh_seen_groups vh_seen_kept vh_seen_flourishes vh_seen_longGroups vh_seen_reason vh_seen_sentences vh_seen_words vh_seen_left vh_court_bows vh_court_given vh_court_taken vh_court_settings vh_court_numbers vh_court_pauses p0 _ hc_16) rfl co_X3_look ini_X3 ml_X4_126 im_X3_look se_X3_look ar_X3_look ⟨Nat.le_of_ble_eq_true rfl, Nat.le_of_ble_eq_true rfl⟩ ⟨Nat.le_of_ble_eq_true rfl, Nat.le_of_ble_eq_true rfl⟩ rfl rfl (bw_pick1 8 [5, 6, 7, 1, 2, 3, 4, 0] rfl rfl (by decide)) (Nat.le_of_ble_eq_true rfl) dX4_sentence_28 (fun r w1 hq => ?_)
        obtain ⟨rfl, rfl⟩ := hq
        refine bw_perm (ws1 := [(ah, .inr (4, [.ref ah_court, .ref ah_pad, .ref ah_history, .ref ah_slots, .ref ah_seen, .ref ah_plain, .ref ah_trial])), (ah_court, .inr (0, [.ref ah_court_settings, .ref ah_court_eyes, .ref ah_court_favours, .ref ah_court_numbers, .ref ah_court_pauses, .int vh_court_bows, .int vh_court_given, .int vh_court_taken])), (ah_court_settings, .inl (g.2.1, 3, .inl vh_court_settings)), (ah_court_numbers, .inl (g.2.1, 24, .inl vh_court_numbers)), (ah_court_pauses, .inl (g.2.1, 24, .inl vh_court_pauses)), (ah_seen, .inr (3, [.ref ah_seen_words, .int q_16.1, .ref ah_seen_left, .int q_16.2.1, .int q_16.2.2.1, .int q_16.2.2.2.1, .int q_16.2.2.2.2.1, .int q_16.2.2.2.2.2.1])), (ah_seen_words, .inl (g.2.1, 24, .inl q_16.2.2.2.2.2.2.1)), (ah_seen_left, .inl (g.2.1, 24, .inl q_16.2.2.2.2.2.2.2))]) (bw_pick1 8 [0, 4, 5, 6, 7, 1, 2, 3] rfl rfl (by decide)) ?_
        refine bw_st (st1 := []) rfl ?_
        refine bw_iload_n 2 dX4_sentence_31 rfl rfl ?_
        refine bw_if_lt 46 dX4_sentence_32 (by decide) (fun c_17 => ?_) (fun c_17 => ?_)
        · have hf := bw_pos c_17 hf
          refine bw_ldc ct_X4_60 dX4_sentence_46 ?_
          cases Option.some.inj hf
          exact bw_ret rfl rfl (Nat.le_of_ble_eq_true rfl) (Nat.le_of_ble_eq_true rfl) dX4_sentence_48 ⟨rfl, rfl⟩
        · have hf := bw_neg c_17 hf
          refine bw_iload_n 2 dX4_sentence_35 rfl rfl ?_
          refine bw_aload_n 0 dX4_sentence_36 rfl rfl ?_
          refine bw_gf bkX4 0 4 (by decide) fl_X4_37 rfl rfl dX4_sentence_37 ?_
          refine bw_gf bkX3 5 7 (by decide) fl_X4_136 rfl rfl dX4_sentence_40 ?_
          refine bw_icmp_lt 49 dX4_sentence_43 (by decide) (fun c_18 => ?_) (fun c_18 => ?_)
          · have hf := bw_pos c_18 hf
            refine bw_iload_n 3 dX4_sentence_49 rfl rfl ?_
            refine bw_iconst 3 dX4_sentence_50 (by decide) ?_
            refine bw_icmp_ne 71 dX4_sentence_51 (by decide) (fun c_19 => ?_) (fun c_19 => ?_)
            · have hf := bw_neg c_19 hf
              refine bw_aload_n 0 dX4_sentence_71 rfl rfl ?_
              refine bw_gf bkX4 0 4 (by decide) fl_X4_37 rfl rfl dX4_sentence_72 ?_
              refine bw_iload_n 2 dX4_sentence_75 rfl rfl ?_
              refine bw_iload_n 3 dX4_sentence_76 rfl rfl ?_
              obtain ⟨q_20, hc_20, hf⟩ := bw_bind hf
              refine bw_callV [.int p1, .int p2] [] [(ah, .inr (4, [.ref ah_court, .ref ah_pad, .ref ah_history, .ref ah_slots, .ref ah_seen, .ref ah_plain, .ref ah_trial])), (ah_court, .inr (0, [.ref ah_court_settings, .ref ah_court_eyes, .ref ah_court_favours, .ref ah_court_numbers, .ref ah_court_pauses, .int vh_court_bows, .int vh_court_given, .int vh_court_taken])), (ah_court_settings, .inl (g.2.1, 3, .inl vh_court_settings)), (ah_court_numbers, .inl (g.2.1, 24, .inl vh_court_numbers)), (ah_court_pauses, .inl (g.2.1, 24, .inl vh_court_pauses)), (ah_seen_words, .inl (g.2.1, 24, .inl q_16.2.2.2.2.2.2.1))] 0 3 (s_X3_part l g ah_seen ah_seen_words ah_seen_left q_16.1 q_16.2.1 q_16.2.2.1 q_16.2.2.2.1 q_16.2.2.2.2.1 q_16.2.2.2.2.2.1 q_16.2.2.2.2.2.2.2 p1 p2 _ hc_20) rfl co_X3_part ini_X3 ml_X4_152 im_X3_part se_X3_part ar_X3_part ⟨Nat.le_of_ble_eq_true rfl, Nat.le_of_ble_eq_true rfl⟩ ⟨Nat.le_of_ble_eq_true rfl, Nat.le_of_ble_eq_true rfl⟩ rfl rfl (bw_pick1 8 [5, 7, 0, 1, 2, 3, 4, 6] rfl rfl (by decide)) (Nat.le_of_ble_eq_true rfl) dX4_sentence_77 (fun r w1 hq => ?_)
              obtain ⟨rfl, rfl⟩ := hq
              refine bw_perm (ws1 := [(ah, .inr (4, [.ref ah_court, .ref ah_pad, .ref ah_history, .ref ah_slots, .ref ah_seen, .ref ah_plain, .ref ah_trial])), (ah_court, .inr (0, [.ref ah_court_settings, .ref ah_court_eyes, .ref ah_court_favours, .ref ah_court_numbers, .ref ah_court_pauses, .int vh_court_bows, .int vh_court_given, .int vh_court_taken])), (ah_court_settings, .inl (g.2.1, 3, .inl vh_court_settings)), (ah_court_numbers, .inl (g.2.1, 24, .inl vh_court_numbers)), (ah_court_pauses, .inl (g.2.1, 24, .inl vh_court_pauses)), (ah_seen, .inr (3, [.ref ah_seen_words, .int q_16.1, .ref ah_seen_left, .int q_16.2.1, .int q_16.2.2.1, .int q_16.2.2.2.1, .int q_16.2.2.2.2.1, .int q_16.2.2.2.2.2.1])), (ah_seen_words, .inl (g.2.1, 24, .inl q_16.2.2.2.2.2.2.1)), (ah_seen_left, .inl (g.2.1, 24, .inl q_16.2.2.2.2.2.2.2))]) (bw_pick1 8 [0, 1, 2, 3, 4, 6, 5, 7] rfl rfl (by decide)) ?_
              refine bw_st (st1 := [.int q_20]) rfl ?_
              cases Option.some.inj hf
              exact bw_ret rfl rfl (Nat.le_of_ble_eq_true rfl) (Nat.le_of_ble_eq_true rfl) dX4_sentence_80 ⟨rfl, rfl⟩
            · have hf := bw_pos c_19 hf
              refine bw_aload_n 0 dX4_sentence_54 rfl rfl ?_
              refine bw_gf bkX4 0 4 (by decide) fl_X4_37 rfl rfl dX4_sentence_55 ?_
              refine bw_iload_n 2 dX4_sentence_58 rfl rfl ?_
              obtain ⟨q_21, hc_21, hf⟩ := bw_bind hf
              refine bw_callV [.int p1] [] [(ah, .inr (4, [.ref ah_court, .ref ah_pad, .ref ah_history, .ref ah_slots, .ref ah_seen, .ref ah_plain, .ref ah_trial])), (ah_court, .inr (0, [.ref ah_court_settings, .ref ah_court_eyes, .ref ah_court_favours, .ref ah_court_numbers, .ref ah_court_pauses, .int vh_court_bows, .int vh_court_given, .int vh_court_taken])), (ah_court_settings, .inl (g.2.1, 3, .inl vh_court_settings)), (ah_court_numbers, .inl (g.2.1, 24, .inl vh_court_numbers)), (ah_court_pauses, .inl (g.2.1, 24, .inl vh_court_pauses)), (ah_seen_words, .inl (g.2.1, 24, .inl q_16.2.2.2.2.2.2.1))] 0 3 (s_X3_isKind l g ah_seen ah_seen_words ah_seen_left q_16.1 q_16.2.1 q_16.2.2.1 q_16.2.2.2.1 q_16.2.2.2.2.1 q_16.2.2.2.2.2.1 q_16.2.2.2.2.2.2.2 p1 _ hc_21) rfl co_X3_isKind ini_X3 ml_X4_149 im_X3_isKind se_X3_isKind ar_X3_isKind ⟨Nat.le_of_ble_eq_true rfl, Nat.le_of_ble_eq_true rfl⟩ ⟨Nat.le_of_ble_eq_true rfl, Nat.le_of_ble_eq_true rfl⟩ rfl rfl (bw_pick1 8 [5, 7, 0, 1, 2, 3, 4, 6] rfl rfl (by decide)) (Nat.le_of_ble_eq_true rfl) dX4_sentence_59 (fun r w1 hq => ?_)
              obtain ⟨rfl, rfl⟩ := hq
              refine bw_perm (ws1 := [(ah, .inr (4, [.ref ah_court, .ref ah_pad, .ref ah_history, .ref ah_slots, .ref ah_seen, .ref ah_plain, .ref ah_trial])), (ah_court, .inr (0, [.ref ah_court_settings, .ref ah_court_eyes, .ref ah_court_favours, .ref ah_court_numbers, .ref ah_court_pauses, .int vh_court_bows, .int vh_court_given, .int vh_court_taken])), (ah_court_settings, .inl (g.2.1, 3, .inl vh_court_settings)), (ah_court_numbers, .inl (g.2.1, 24, .inl vh_court_numbers)), (ah_court_pauses, .inl (g.2.1, 24, .inl vh_court_pauses)), (ah_seen, .inr (3, [.ref ah_seen_words, .int q_16.1, .ref ah_seen_left, .int q_16.2.1, .int q_16.2.2.1, .int q_16.2.2.2.1, .int q_16.2.2.2.2.1, .int q_16.2.2.2.2.2.1])), (ah_seen_words, .inl (g.2.1, 24, .inl q_16.2.2.2.2.2.2.1)), (ah_seen_left, .inl (g.2.1, 24, .inl q_16.2.2.2.2.2.2.2))]) (bw_pick1 8 [0, 1, 2, 3, 4, 6, 5, 7] rfl rfl (by decide)) ?_
              refine bw_st (st1 := [.int q_21]) rfl ?_
              refine bw_if_eq 69 dX4_sentence_62 (by decide) (fun c_22 => ?_) (fun c_22 => ?_)
              · have hf := bw_pos c_22 hf
                refine bw_iconst 0 dX4_sentence_69 (by decide) ?_
                cases Option.some.inj hf
                exact bw_ret rfl rfl (Nat.le_of_ble_eq_true rfl) (Nat.le_of_ble_eq_true rfl) dX4_sentence_70 ⟨rfl, rfl⟩
              · have hf := bw_neg c_22 hf
                refine bw_iconst 1 dX4_sentence_65 (by decide) ?_
                refine bw_goto 70 dX4_sentence_66 (by decide) ?_
                cases Option.some.inj hf
                exact bw_ret rfl rfl (Nat.le_of_ble_eq_true rfl) (Nat.le_of_ble_eq_true rfl) dX4_sentence_70 ⟨rfl, rfl⟩
          · have hf := bw_neg c_18 hf
            refine bw_ldc ct_X4_60 dX4_sentence_46 ?_
            cases Option.some.inj hf
            exact bw_ret rfl rfl (Nat.le_of_ble_eq_true rfl) (Nat.le_of_ble_eq_true rfl) dX4_sentence_48 ⟨rfl, rfl⟩
      · have hf := bw_neg c_15 hf
        refine bw_ldc ct_X4_47 dX4_sentence_16 ?_
        cases Option.some.inj hf
        exact bw_ret rfl rfl (Nat.le_of_ble_eq_true rfl) (Nat.le_of_ble_eq_true rfl) dX4_sentence_18 ⟨rfl, rfl⟩
theorem ar_X4_isCourtier : yX4_isCourtier.cls ≠ "java/lang/invoke/MethodHandle" ∧ yX4_isCourtier.cls ≠ "java/lang/invoke/VarHandle" ∧ (parseMethodDescriptor yX4_isCourtier.desc).map (fun d => d.parameters.length) = some 1 := ⟨by decide, by decide, by decide +kernel⟩
def f_X4_isCourtier  (p0 : Int32) : Option (Int32) := (if p0 < 0 then some 0 else (if 6 ≤ p0 then some 0 else some 1))
set_option maxHeartbeats 4000000 in
set_option maxRecDepth 100000 in
theorem s_X4_isCourtier (l : Launch) (g : bwG)   (p0 : Int32) (res : Int32) (hf : f_X4_isCourtier  p0 = some res) : bwS l g yX4_isCourtier cX4_isCourtier 1 (some .boolean) ({ frames := 0, cells := 0, slots := 0, locals := 0 } : Room) [.int p0] ([]) (fun r w => r = some (.int res) ∧ w = []) := by
  refine bwS_of (by decide) (Nat.le_of_ble_eq_true rfl) ?_
  unfold f_X4_isCourtier at hf
  show bwR l g cX4_isCourtier 1 RX4 "isCourtier" (some .boolean) ({ frames := 0, cells := 0, slots := 0, locals := 0 } : Room) bwT (bwZ g (fun r w => r = some (.int res) ∧ w = []) 0 0) 0 [(0, .int p0)] [] ([]) 0 0
  refine bw_iload_n 0 dX4_isCourtier_0 rfl rfl ?_
  refine bw_if_lt 14 dX4_isCourtier_1 (by decide) (fun c_3 => ?_) (fun c_3 => ?_)
  · have hf := bw_pos c_3 hf
    refine bw_iconst 0 dX4_isCourtier_14 (by decide) ?_
    cases Option.some.inj hf
    exact bw_ret rfl rfl (Nat.le_of_ble_eq_true rfl) (Nat.le_of_ble_eq_true rfl) dX4_isCourtier_15 ⟨rfl, rfl⟩
  · have hf := bw_neg c_3 hf
    refine bw_iload_n 0 dX4_isCourtier_4 rfl rfl ?_
    refine bw_bipush 6 dX4_isCourtier_5 (by decide) ?_
    refine bw_icmp_ge 14 dX4_isCourtier_7 (by decide) (fun c_4 => ?_) (fun c_4 => ?_)
    · have hf := bw_pos c_4 hf
      refine bw_iconst 0 dX4_isCourtier_14 (by decide) ?_
      cases Option.some.inj hf
      exact bw_ret rfl rfl (Nat.le_of_ble_eq_true rfl) (Nat.le_of_ble_eq_true rfl) dX4_isCourtier_15 ⟨rfl, rfl⟩
    · have hf := bw_neg c_4 hf
      refine bw_iconst 1 dX4_isCourtier_10 (by decide) ?_
      refine bw_goto 15 dX4_isCourtier_11 (by decide) ?_
      cases Option.some.inj hf
      exact bw_ret rfl rfl (Nat.le_of_ble_eq_true rfl) (Nat.le_of_ble_eq_true rfl) dX4_isCourtier_15 ⟨rfl, rfl⟩
theorem ar_X4_favourIndex : yX4_favourIndex.cls ≠ "java/lang/invoke/MethodHandle" ∧ yX4_favourIndex.cls ≠ "java/lang/invoke/VarHandle" ∧ (parseMethodDescriptor yX4_favourIndex.desc).map (fun d => d.parameters.length) = some 2 := ⟨by decide, by decide, by decide +kernel⟩
def f_X4_favourIndex  (p0 : Int32) (p1 : Int32) : Option (Int32) := some ((6 * p0) + p1)
set_option maxHeartbeats 4000000 in
set_option maxRecDepth 100000 in
theorem s_X4_favourIndex (l : Launch) (g : bwG)   (p0 : Int32) (p1 : Int32) (res : Int32) (hf : f_X4_favourIndex  p0 p1 = some res) : bwS l g yX4_favourIndex cX4_favourIndex 2 (some .int) ({ frames := 0, cells := 0, slots := 0, locals := 0 } : Room) [.int p0, .int p1] ([]) (fun r w => r = some (.int res) ∧ w = []) := by
  refine bwS_of (by decide) (Nat.le_of_ble_eq_true rfl) ?_
  unfold f_X4_favourIndex at hf
  show bwR l g cX4_favourIndex 2 RX4 "favourIndex" (some .int) ({ frames := 0, cells := 0, slots := 0, locals := 0 } : Room) bwT (bwZ g (fun r w => r = some (.int res) ∧ w = []) 0 0) 0 [(0, .int p0), (1, .int p1)] [] ([]) 0 0
  refine bw_bipush 6 dX4_favourIndex_0 (by decide) ?_
  refine bw_iload_n 0 dX4_favourIndex_2 rfl rfl ?_
  refine bw_imul dX4_favourIndex_3 ?_
  refine bw_iload_n 1 dX4_favourIndex_4 rfl rfl ?_
  refine bw_iadd dX4_favourIndex_5 ?_
  cases Option.some.inj hf
  exact bw_ret rfl rfl (Nat.le_of_ble_eq_true rfl) (Nat.le_of_ble_eq_true rfl) dX4_favourIndex_6 ⟨rfl, rfl⟩
theorem ar_X4_favour : yX4_favour.cls ≠ "java/lang/invoke/MethodHandle" ∧ yX4_favour.cls ≠ "java/lang/invoke/VarHandle" ∧ (parseMethodDescriptor yX4_favour.desc).map (fun d => d.parameters.length) = some 2 := ⟨by decide, by decide, by decide +kernel⟩
def f_X4_favour (vh_court_favours : Nat → Int32) (p0 : Int32) (p1 : Int32) : Option (Int32) := ((f_X4_isCourtier p0).bind fun q_7 => (if q_7 = 0 then some (-1000001) else ((f_X4_isCourtier p1).bind fun q_9 => (if q_9 = 0 then some (-1000001) else ((f_X4_favourIndex p0 p1).bind fun q_11 => (if bw_in q_11 36 then some (vh_court_favours (Int32.toNatClampNeg q_11)) else none))))))
set_option maxHeartbeats 4000000 in
set_option maxRecDepth 100000 in
theorem s_X4_favour (l : Launch) (g : bwG) (ah ah_court ah_pad ah_history ah_slots ah_seen ah_plain ah_trial ah_court_settings ah_court_eyes ah_court_favours ah_court_numbers ah_court_pauses : Nat) (vh_court_bows : Int32) (vh_court_given : Int32) (vh_court_taken : Int32) (vh_court_favours : Nat → Int32) (p0 : Int32) (p1 : Int32) (res : Int32) (hf : f_X4_favour vh_court_favours p0 p1 = some res) : bwS l g yX4_favour cX4_favour 3 (some .int) ({ frames := 1, cells := 0, slots := 0, locals := 21 } : Room) [.ref ah, .int p0, .int p1] ([(ah, .inr (4, [.ref ah_court, .ref ah_pad, .ref ah_history, .ref ah_slots, .ref ah_seen, .ref ah_plain, .ref ah_trial])), (ah_court, .inr (0, [.ref ah_court_settings, .ref ah_court_eyes, .ref ah_court_favours, .ref ah_court_numbers, .ref ah_court_pauses, .int vh_court_bows, .int vh_court_given, .int vh_court_taken])), (ah_court_favours, .inl (g.2.1, 36, .inl vh_court_favours))]) (fun r w => r = some (.int res) ∧ w = [(ah, .inr (4, [.ref ah_court, .ref ah_pad, .ref ah_history, .ref ah_slots, .ref ah_seen, .ref ah_plain, .ref ah_trial])), (ah_court, .inr (0, [.ref ah_court_settings, .ref ah_court_eyes, .ref ah_court_favours, .ref ah_court_numbers, .ref ah_court_pauses, .int vh_court_bows, .int vh_court_given, .int vh_court_taken])), (ah_court_favours, .inl (g.2.1, 36, .inl vh_court_favours))]) := by
  refine bwS_of (by decide) (Nat.le_of_ble_eq_true rfl) ?_
  unfold f_X4_favour at hf
  show bwR l g cX4_favour 3 RX4 "favour" (some .int) ({ frames := 1, cells := 0, slots := 0, locals := 21 } : Room) bwT (bwZ g (fun r w => r = some (.int res) ∧ w = [(ah, .inr (4, [.ref ah_court, .ref ah_pad, .ref ah_history, .ref ah_slots, .ref ah_seen, .ref ah_plain, .ref ah_trial])), (ah_court, .inr (0, [.ref ah_court_settings, .ref ah_court_eyes, .ref ah_court_favours, .ref ah_court_numbers, .ref ah_court_pauses, .int vh_court_bows, .int vh_court_given, .int vh_court_taken])), (ah_court_favours, .inl (g.2.1, 36, .inl vh_court_favours))]) 0 0) 0 [(0, .ref ah), (1, .int p0), (2, .int p1)] [] ([(ah, .inr (4, [.ref ah_court, .ref ah_pad, .ref ah_history, .ref ah_slots, .ref ah_seen, .ref ah_plain, .ref ah_trial])), (ah_court, .inr (0, [.ref ah_court_settings, .ref ah_court_eyes, .ref ah_court_favours, .ref ah_court_numbers, .ref ah_court_pauses, .int vh_court_bows, .int vh_court_given, .int vh_court_taken])), (ah_court_favours, .inl (g.2.1, 36, .inl vh_court_favours))]) 0 0
  refine bw_iload_n 1 dX4_favour_0 rfl rfl ?_
  obtain ⟨q_7, hc_7, hf⟩ := bw_bind hf
  refine bw_callS [.int p0] [] [(ah, .inr (4, [.ref ah_court, .ref ah_pad, .ref ah_history, .ref ah_slots, .ref ah_seen, .ref ah_plain, .ref ah_trial])), (ah_court, .inr (0, [.ref ah_court_settings, .ref ah_court_eyes, .ref ah_court_favours, .ref ah_court_numbers, .ref ah_court_pauses, .int vh_court_bows, .int vh_court_given, .int vh_court_taken])), (ah_court_favours, .inl (g.2.1, 36, .inl vh_court_favours))] (s_X4_isCourtier l g   p0 _ hc_7) rfl co_X4_isCourtier ini_X4 ml_X4_56 st_X4_isCourtier ar_X4_isCourtier ⟨Nat.le_of_ble_eq_true rfl, Nat.le_of_ble_eq_true rfl⟩ ⟨Nat.le_of_ble_eq_true rfl, Nat.le_of_ble_eq_true rfl⟩ (bw_pick1 3 [0, 1, 2] rfl rfl (by decide)) (Nat.le_of_ble_eq_true rfl) dX4_favour_1 (fun r w1 hq => ?_)
  obtain ⟨rfl, rfl⟩ := hq
  refine bw_perm (ws1 := [(ah, .inr (4, [.ref ah_court, .ref ah_pad, .ref ah_history, .ref ah_slots, .ref ah_seen, .ref ah_plain, .ref ah_trial])), (ah_court, .inr (0, [.ref ah_court_settings, .ref ah_court_eyes, .ref ah_court_favours, .ref ah_court_numbers, .ref ah_court_pauses, .int vh_court_bows, .int vh_court_given, .int vh_court_taken])), (ah_court_favours, .inl (g.2.1, 36, .inl vh_court_favours))]) (bw_pick1 3 [0, 1, 2] rfl rfl (by decide)) ?_
  refine bw_st (st1 := [.int q_7]) rfl ?_
  refine bw_if_eq 14 dX4_favour_4 (by decide) (fun c_8 => ?_) (fun c_8 => ?_)
  · have hf := bw_pos c_8 hf
    refine bw_ldc ct_X4_60 dX4_favour_14 ?_
    cases Option.some.inj hf
    exact bw_ret rfl rfl (Nat.le_of_ble_eq_true rfl) (Nat.le_of_ble_eq_true rfl) dX4_favour_16 ⟨rfl, rfl⟩
  · have hf := bw_neg c_8 hf
    refine bw_iload_n 2 dX4_favour_7 rfl rfl ?_
    obtain ⟨q_9, hc_9, hf⟩ := bw_bind hf
    refine bw_callS [.int p1] [] [(ah, .inr (4, [.ref ah_court, .ref ah_pad, .ref ah_history, .ref ah_slots, .ref ah_seen, .ref ah_plain, .ref ah_trial])), (ah_court, .inr (0, [.ref ah_court_settings, .ref ah_court_eyes, .ref ah_court_favours, .ref ah_court_numbers, .ref ah_court_pauses, .int vh_court_bows, .int vh_court_given, .int vh_court_taken])), (ah_court_favours, .inl (g.2.1, 36, .inl vh_court_favours))] (s_X4_isCourtier l g   p1 _ hc_9) rfl co_X4_isCourtier ini_X4 ml_X4_56 st_X4_isCourtier ar_X4_isCourtier ⟨Nat.le_of_ble_eq_true rfl, Nat.le_of_ble_eq_true rfl⟩ ⟨Nat.le_of_ble_eq_true rfl, Nat.le_of_ble_eq_true rfl⟩ (bw_pick1 3 [0, 1, 2] rfl rfl (by decide)) (Nat.le_of_ble_eq_true rfl) dX4_favour_8 (fun r w1 hq => ?_)
    obtain ⟨rfl, rfl⟩ := hq
    refine bw_perm (ws1 := [(ah, .inr (4, [.ref ah_court, .ref ah_pad, .ref ah_history, .ref ah_slots, .ref ah_seen, .ref ah_plain, .ref ah_trial])), (ah_court, .inr (0, [.ref ah_court_settings, .ref ah_court_eyes, .ref ah_court_favours, .ref ah_court_numbers, .ref ah_court_pauses, .int vh_court_bows, .int vh_court_given, .int vh_court_taken])), (ah_court_favours, .inl (g.2.1, 36, .inl vh_court_favours))]) (bw_pick1 3 [0, 1, 2] rfl rfl (by decide)) ?_
    refine bw_st (st1 := [.int q_9]) rfl ?_
    refine bw_if_ne 17 dX4_favour_11 (by decide) (fun c_10 => ?_) (fun c_10 => ?_)
    · have hf := bw_neg c_10 hf
      refine bw_aload_n 0 dX4_favour_17 rfl rfl ?_
      refine bw_gf bkX4 0 0 (by decide) fl_X4_10 rfl rfl dX4_favour_18 ?_
      refine bw_gf bkX0 1 2 (by decide) fl_X4_111 rfl rfl dX4_favour_21 ?_
      refine bw_iload_n 1 dX4_favour_24 rfl rfl ?_
      refine bw_iload_n 2 dX4_favour_25 rfl rfl ?_
      obtain ⟨q_11, hc_11, hf⟩ := bw_bind hf
      refine bw_callS [.int p0, .int p1] [.ref ah_court_favours] [(ah, .inr (4, [.ref ah_court, .ref ah_pad, .ref ah_history, .ref ah_slots, .ref ah_seen, .ref ah_plain, .ref ah_trial])), (ah_court, .inr (0, [.ref ah_court_settings, .ref ah_court_eyes, .ref ah_court_favours, .ref ah_court_numbers, .ref ah_court_pauses, .int vh_court_bows, .int vh_court_given, .int vh_court_taken])), (ah_court_favours, .inl (g.2.1, 36, .inl vh_court_favours))] (s_X4_favourIndex l g   p0 p1 _ hc_11) rfl co_X4_favourIndex ini_X4 ml_X4_114 st_X4_favourIndex ar_X4_favourIndex ⟨Nat.le_of_ble_eq_true rfl, Nat.le_of_ble_eq_true rfl⟩ ⟨Nat.le_of_ble_eq_true rfl, Nat.le_of_ble_eq_true rfl⟩ (bw_pick1 3 [0, 1, 2] rfl rfl (by decide)) (Nat.le_of_ble_eq_true rfl) dX4_favour_26 (fun r w1 hq => ?_)
      obtain ⟨rfl, rfl⟩ := hq
      refine bw_perm (ws1 := [(ah, .inr (4, [.ref ah_court, .ref ah_pad, .ref ah_history, .ref ah_slots, .ref ah_seen, .ref ah_plain, .ref ah_trial])), (ah_court, .inr (0, [.ref ah_court_settings, .ref ah_court_eyes, .ref ah_court_favours, .ref ah_court_numbers, .ref ah_court_pauses, .int vh_court_bows, .int vh_court_given, .int vh_court_taken])), (ah_court_favours, .inl (g.2.1, 36, .inl vh_court_favours))]) (bw_pick1 3 [0, 1, 2] rfl rfl (by decide)) ?_
      refine bw_st (st1 := [.int q_11, .ref ah_court_favours]) rfl ?_
      obtain ⟨h_12, hf⟩ := bw_chk hf
      refine bw_iald 2 rfl h_12 dX4_favour_29 ?_
      cases Option.some.inj hf
      exact bw_ret rfl rfl (Nat.le_of_ble_eq_true rfl) (Nat.le_of_ble_eq_true rfl) dX4_favour_30 ⟨rfl, rfl⟩
    · have hf := bw_pos c_10 hf
      refine bw_ldc ct_X4_60 dX4_favour_14 ?_
      cases Option.some.inj hf
      exact bw_ret rfl rfl (Nat.le_of_ble_eq_true rfl) (Nat.le_of_ble_eq_true rfl) dX4_favour_16 ⟨rfl, rfl⟩
theorem ar_X4_lookThroughEyesOf : yX4_lookThroughEyesOf.cls ≠ "java/lang/invoke/MethodHandle" ∧ yX4_lookThroughEyesOf.cls ≠ "java/lang/invoke/VarHandle" ∧ (parseMethodDescriptor yX4_lookThroughEyesOf.desc).map (fun d => d.parameters.length) = some 1 := ⟨by decide, by decide, by decide +kernel⟩
def f_X4_lookThroughEyesOf (vh_court_bows : Int32) (vh_court_settings : Nat → Int32) (vh_court_eyes : Nat → Int32) (vh_court_numbers : Nat → Int32) (vh_court_pauses : Nat → Int32) (vh_seen_groups : Int32) (vh_seen_kept : Int32) (vh_seen_flourishes : Int32) (vh_seen_longGroups : Int32) (vh_seen_reason : Int32) (vh_seen_sentences : Int32) (vh_seen_words : Nat → Int32) (vh_seen_left : Nat → Int32) (p0 : Int32) : Option ((Int32) × (Int32) × (Int32) × (Int32) × (Int32) × (Int32) × (Nat → Int32) × (Nat → Int32)) := ((f_X4_at 6 vh_court_eyes p0).bind fun q_3 => ((f_X3_look vh_seen_groups vh_seen_kept vh_seen_flourishes vh_seen_longGroups vh_seen_reason vh_seen_sentences vh_seen_words vh_seen_left vh_court_bows vh_court_settings vh_court_numbers vh_court_pauses q_3).bind fun q_4 => some (q_4.1, q_4.2.1, q_4.2.2.1, q_4.2.2.2.1, q_4.2.2.2.2.1, q_4.2.2.2.2.2.1, q_4.2.2.2.2.2.2.1, q_4.2.2.2.2.2.2.2)))
set_option maxHeartbeats 4000000 in
set_option maxRecDepth 100000 in
theorem s_X4_lookThroughEyesOf (l : Launch) (g : bwG) (ah ah_court ah_pad ah_history ah_slots ah_seen ah_plain ah_trial ah_court_settings ah_court_eyes ah_court_favours ah_court_numbers ah_court_pauses ah_seen_words ah_seen_left : Nat) (vh_court_bows : Int32) (vh_court_given : Int32) (vh_court_taken : Int32) (vh_court_settings : Nat → Int32) (vh_court_eyes : Nat → Int32) (vh_court_numbers : Nat → Int32) (vh_court_pauses : Nat → Int32) (vh_seen_groups : Int32) (vh_seen_kept : Int32) (vh_seen_flourishes : Int32) (vh_seen_longGroups : Int32) (vh_seen_reason : Int32) (vh_seen_sentences : Int32) (vh_seen_words : Nat → Int32) (vh_seen_left : Nat → Int32) (p0 : Int32) (res : (Int32) × (Int32) × (Int32) × (Int32) × (Int32) × (Int32) × (Nat → Int32) × (Nat → Int32)) (hf : f_X4_lookThroughEyesOf vh_court_bows vh_court_settings vh_court_eyes vh_court_numbers vh_court_pauses vh_seen_groups vh_seen_kept vh_seen_flourishes vh_seen_longGroups vh_seen_reason vh_seen_sentences vh_seen_words vh_seen_left p0 = some res) : bwS l g yX4_lookThroughEyesOf cX4_lookThroughEyesOf 2 none ({ frames := 4, cells := 0, slots := 0, locals := 91 } : Room) [.ref ah, .int p0] ([(ah, .inr (4, [.ref ah_court, .ref ah_pad, .ref ah_history, .ref ah_slots, .ref ah_seen, .ref ah_plain, .ref ah_trial])), (ah_court, .inr (0, [.ref ah_court_settings, .ref ah_court_eyes, .ref ah_court_favours, .ref ah_court_numbers, .ref ah_court_pauses, .int vh_court_bows, .int vh_court_given, .int vh_court_taken])), (ah_court_settings, .inl (g.2.1, 3, .inl vh_court_settings)), (ah_court_eyes, .inl (g.2.1, 6, .inl vh_court_eyes)), (ah_court_numbers, .inl (g.2.1, 24, .inl vh_court_numbers)), (ah_court_pauses, .inl (g.2.1, 24, .inl vh_court_pauses)), (ah_seen, .inr (3, [.ref ah_seen_words, .int vh_seen_groups, .ref ah_seen_left, .int vh_seen_kept, .int vh_seen_flourishes, .int vh_seen_longGroups, .int vh_seen_reason, .int vh_seen_sentences])), (ah_seen_words, .inl (g.2.1, 24, .inl vh_seen_words)), (ah_seen_left, .inl (g.2.1, 24, .inl vh_seen_left))]) (fun r w => r = none ∧ w = [(ah, .inr (4, [.ref ah_court, .ref ah_pad, .ref ah_history, .ref ah_slots, .ref ah_seen, .ref ah_plain, .ref ah_trial])), (ah_court, .inr (0, [.ref ah_court_settings, .ref ah_court_eyes, .ref ah_court_favours, .ref ah_court_numbers, .ref ah_court_pauses, .int vh_court_bows, .int vh_court_given, .int vh_court_taken])), (ah_court_settings, .inl (g.2.1, 3, .inl vh_court_settings)), (ah_court_eyes, .inl (g.2.1, 6, .inl vh_court_eyes)), (ah_court_numbers, .inl (g.2.1, 24, .inl vh_court_numbers)), (ah_court_pauses, .inl (g.2.1, 24, .inl vh_court_pauses)), (ah_seen, .inr (3, [.ref ah_seen_words, .int res.1, .ref ah_seen_left, .int res.2.1, .int res.2.2.1, .int res.2.2.2.1, .int res.2.2.2.2.1, .int res.2.2.2.2.2.1])), (ah_seen_words, .inl (g.2.1, 24, .inl res.2.2.2.2.2.2.1)), (ah_seen_left, .inl (g.2.1, 24, .inl res.2.2.2.2.2.2.2))]) := by
  refine bwS_of (by decide) (Nat.le_of_ble_eq_true rfl) ?_
  unfold f_X4_lookThroughEyesOf at hf
  show bwR l g cX4_lookThroughEyesOf 2 RX4 "lookThroughEyesOf" none ({ frames := 4, cells := 0, slots := 0, locals := 91 } : Room) bwT (bwZ g (fun r w => r = none ∧ w = [(ah, .inr (4, [.ref ah_court, .ref ah_pad, .ref ah_history, .ref ah_slots, .ref ah_seen, .ref ah_plain, .ref ah_trial])), (ah_court, .inr (0, [.ref ah_court_settings, .ref ah_court_eyes, .ref ah_court_favours, .ref ah_court_numbers, .ref ah_court_pauses, .int vh_court_bows, .int vh_court_given, .int vh_court_taken])), (ah_court_settings, .inl (g.2.1, 3, .inl vh_court_settings)), (ah_court_eyes, .inl (g.2.1, 6, .inl vh_court_eyes)), (ah_court_numbers, .inl (g.2.1, 24, .inl vh_court_numbers)), (ah_court_pauses, .inl (g.2.1, 24, .inl vh_court_pauses)), (ah_seen, .inr (3, [.ref ah_seen_words, .int res.1, .ref ah_seen_left, .int res.2.1, .int res.2.2.1, .int res.2.2.2.1, .int res.2.2.2.2.1, .int res.2.2.2.2.2.1])), (ah_seen_words, .inl (g.2.1, 24, .inl res.2.2.2.2.2.2.1)), (ah_seen_left, .inl (g.2.1, 24, .inl res.2.2.2.2.2.2.2))]) 0 0) 0 [(0, .ref ah), (1, .int p0)] [] ([(ah, .inr (4, [.ref ah_court, .ref ah_pad, .ref ah_history, .ref ah_slots, .ref ah_seen, .ref ah_plain, .ref ah_trial])), (ah_court, .inr (0, [.ref ah_court_settings, .ref ah_court_eyes, .ref ah_court_favours, .ref ah_court_numbers, .ref ah_court_pauses, .int vh_court_bows, .int vh_court_given, .int vh_court_taken])), (ah_court_settings, .inl (g.2.1, 3, .inl vh_court_settings)), (ah_court_eyes, .inl (g.2.1, 6, .inl vh_court_eyes)), (ah_court_numbers, .inl (g.2.1, 24, .inl vh_court_numbers)), (ah_court_pauses, .inl (g.2.1, 24, .inl vh_court_pauses)), (ah_seen, .inr (3, [.ref ah_seen_words, .int vh_seen_groups, .ref ah_seen_left, .int vh_seen_kept, .int vh_seen_flourishes, .int vh_seen_longGroups, .int vh_seen_reason, .int vh_seen_sentences])), (ah_seen_words, .inl (g.2.1, 24, .inl vh_seen_words)), (ah_seen_left, .inl (g.2.1, 24, .inl vh_seen_left))]) 0 0
  refine bw_aload_n 0 dX4_lookThroughEyesOf_0 rfl rfl ?_
  refine bw_gf bkX4 0 4 (by decide) fl_X4_37 rfl rfl dX4_lookThroughEyesOf_1 ?_
  refine bw_aload_n 0 dX4_lookThroughEyesOf_4 rfl rfl ?_
  refine bw_gf bkX4 0 0 (by decide) fl_X4_10 rfl rfl dX4_lookThroughEyesOf_5 ?_
  refine bw_aload_n 0 dX4_lookThroughEyesOf_8 rfl rfl ?_
  refine bw_gf bkX4 0 0 (by decide) fl_X4_10 rfl rfl dX4_lookThroughEyesOf_9 ?_
  refine bw_gf bkX0 1 1 (by decide) fl_X4_64 rfl rfl dX4_lookThroughEyesOf_12 ?_
  refine bw_iload_n 1 dX4_lookThroughEyesOf_15 rfl rfl ?_
  obtain ⟨q_3, hc_3, hf⟩ := bw_bind hf
  refine bw_callS [.ref ah_court_eyes, .int p0] [.ref ah_court, .ref ah_seen] [(ah, .inr (4, [.ref ah_court, .ref ah_pad, .ref ah_history, .ref ah_slots, .ref ah_seen, .ref ah_plain, .ref ah_trial])), (ah_court, .inr (0, [.ref ah_court_settings, .ref ah_court_eyes, .ref ah_court_favours, .ref ah_court_numbers, .ref ah_court_pauses, .int vh_court_bows, .int vh_court_given, .int vh_court_taken])), (ah_court_settings, .inl (g.2.1, 3, .inl vh_court_settings)), (ah_court_numbers, .inl (g.2.1, 24, .inl vh_court_numbers)), (ah_court_pauses, .inl (g.2.1, 24, .inl vh_court_pauses)), (ah_seen, .inr (3, [.ref ah_seen_words, .int vh_seen_groups, .ref ah_seen_left, .int vh_seen_kept, .int vh_seen_flourishes, .int vh_seen_longGroups, .int vh_seen_reason, .int vh_seen_sentences])), (ah_seen_words, .inl (g.2.1, 24, .inl vh_seen_words)), (ah_seen_left, .inl (g.2.1, 24, .inl vh_seen_left))] (s_X4_at l g ah_court_eyes 6 vh_court_eyes p0 _ hc_3) rfl co_X4_at ini_X4 ml_X4_145 st_X4_at ar_X4_at ⟨Nat.le_of_ble_eq_true rfl, Nat.le_of_ble_eq_true rfl⟩ ⟨Nat.le_of_ble_eq_true rfl, Nat.le_of_ble_eq_true rfl⟩ (bw_pick1 9 [3, 0, 1, 2, 4, 5, 6, 7, 8] rfl rfl (by decide)) (Nat.le_of_ble_eq_true rfl) dX4_lookThroughEyesOf_16 (fun r w1 hq => ?_)
  obtain ⟨rfl, rfl⟩ := hq
  refine bw_perm (ws1 := [(ah, .inr (4, [.ref ah_court, .ref ah_pad, .ref ah_history, .ref ah_slots, .ref ah_seen, .ref ah_plain, .ref ah_trial])), (ah_court, .inr (0, [.ref ah_court_settings, .ref ah_court_eyes, .ref ah_court_favours, .ref ah_court_numbers, .ref ah_court_pauses, .int vh_court_bows, .int vh_court_given, .int vh_court_taken])), (ah_court_settings, .inl (g.2.1, 3, .inl vh_court_settings)), (ah_court_eyes, .inl (g.2.1, 6, .inl vh_court_eyes)), (ah_court_numbers, .inl (g.2.1, 24, .inl vh_court_numbers)), (ah_court_pauses, .inl (g.2.1, 24, .inl vh_court_pauses)), (ah_seen, .inr (3, [.ref ah_seen_words, .int vh_seen_groups, .ref ah_seen_left, .int vh_seen_kept, .int vh_seen_flourishes, .int vh_seen_longGroups, .int vh_seen_reason, .int vh_seen_sentences])), (ah_seen_words, .inl (g.2.1, 24, .inl vh_seen_words)), (ah_seen_left, .inl (g.2.1, 24, .inl vh_seen_left))]) (bw_pick1 9 [0, 1, 2, 8, 3, 4, 5, 6, 7] rfl rfl (by decide)) ?_
  refine bw_st (st1 := [.int q_3, .ref ah_court, .ref ah_seen]) rfl ?_
  obtain ⟨q_4, hc_4, hf⟩ := bw_bind hf
  refine bw_callV [.ref ah_court, .int q_3] [] [(ah, .inr (4, [.ref ah_court, .ref ah_pad, .ref ah_history, .ref ah_slots, .ref ah_seen, .ref ah_plain, .ref ah_trial])), (ah_court_eyes, .inl (g.2.1, 6, .inl vh_court_eyes))] 0 3 (s_X3_look l g ah_seen ah_seen_words ah_seen_left ah_court ah_court_settings ah_court_eyes ah_court_favours ah_court_numbers ah_court_pauses vh_seen_groups vh_seen_kept vh_seen_flourishes vh_seen_longGroups vh_seen_reason vh_seen_sentences vh_seen_words vh_seen_left vh_court_bows vh_court_given vh_court_taken vh_court_settings vh_court_numbers vh_court_pauses q_3 _ hc_4) rfl co_X3_look ini_X3 ml_X4_126 im_X3_look se_X3_look ar_X3_look ⟨Nat.le_of_ble_eq_true rfl, Nat.le_of_ble_eq_true rfl⟩ ⟨Nat.le_of_ble_eq_true rfl, Nat.le_of_ble_eq_true rfl⟩ rfl rfl (bw_pick1 9 [6, 7, 8, 1, 2, 4, 5, 0, 3] rfl rfl (by decide)) (Nat.le_of_ble_eq_true rfl) dX4_lookThroughEyesOf_19 (fun r w1 hq => ?_)
  obtain ⟨rfl, rfl⟩ := hq
  refine bw_perm (ws1 := [(ah, .inr (4, [.ref ah_court, .ref ah_pad, .ref ah_history, .ref ah_slots, .ref ah_seen, .ref ah_plain, .ref ah_trial])), (ah_court, .inr (0, [.ref ah_court_settings, .ref ah_court_eyes, .ref ah_court_favours, .ref ah_court_numbers, .ref ah_court_pauses, .int vh_court_bows, .int vh_court_given, .int vh_court_taken])), (ah_court_settings, .inl (g.2.1, 3, .inl vh_court_settings)), (ah_court_eyes, .inl (g.2.1, 6, .inl vh_court_eyes)), (ah_court_numbers, .inl (g.2.1, 24, .inl vh_court_numbers)), (ah_court_pauses, .inl (g.2.1, 24, .inl vh_court_pauses)), (ah_seen, .inr (3, [.ref ah_seen_words, .int q_4.1, .ref ah_seen_left, .int q_4.2.1, .int q_4.2.2.1, .int q_4.2.2.2.1, .int q_4.2.2.2.2.1, .int q_4.2.2.2.2.2.1])), (ah_seen_words, .inl (g.2.1, 24, .inl q_4.2.2.2.2.2.2.1)), (ah_seen_left, .inl (g.2.1, 24, .inl q_4.2.2.2.2.2.2.2))]) (bw_pick1 9 [0, 5, 6, 1, 7, 8, 2, 3, 4] rfl rfl (by decide)) ?_
  refine bw_st (st1 := []) rfl ?_
  cases Option.some.inj hf
  exact bw_vret rfl (Nat.le_of_ble_eq_true rfl) (Nat.le_of_ble_eq_true rfl) dX4_lookThroughEyesOf_22 ⟨rfl, rfl⟩
def f_X4_courtiersMisled_L16 : Nat → (Int32) → (Nat → Int32) → (Nat → Int32) → (Nat → Int32) → (Nat → Int32) → (Int32) → (Int32) → (Int32) → (Int32) → (Int32) → (Int32) → (Nat → Int32) → (Nat → Int32) → (Int32) → (Int32) → (Int32) → (Int32) → (Int32) → (Int32) → (Nat → Int32) → (Nat → Int32) → (Int32) → (Int32) → Option (Int32 × (Int32) × (Int32) × (Int32) × (Int32) × (Int32) × (Int32) × (Nat → Int32) × (Nat → Int32) × (Int32) × (Int32) × (Int32) × (Int32) × (Int32) × (Int32) × (Nat → Int32) × (Nat → Int32))
  | 0, _, _, _, _, _, _, _, _, _, _, _, _, _, _, _, _, _, _, _, _, _, _, _ => none
  | fu + 1, vh_court_bows, vh_court_settings, vh_court_eyes, vh_court_numbers, vh_court_pauses, vh_seen_groups, vh_seen_kept, vh_seen_flourishes, vh_seen_longGroups, vh_seen_reason, vh_seen_sentences, vh_seen_words, vh_seen_left, vh_plain_groups, vh_plain_kept, vh_plain_flourishes, vh_plain_longGroups, vh_plain_reason, vh_plain_sentences, vh_plain_words, vh_plain_left, x1, x2 => (if 6 ≤ x2 then some (x1, vh_seen_groups, vh_seen_kept, vh_seen_flourishes, vh_seen_longGroups, vh_seen_reason, vh_seen_sentences, vh_seen_words, vh_seen_left, vh_plain_groups, vh_plain_kept, vh_plain_flourishes, vh_plain_longGroups, vh_plain_reason, vh_plain_sentences, vh_plain_words, vh_plain_left) else ((f_X4_lookThroughEyesOf vh_court_bows vh_court_settings vh_court_eyes vh_court_numbers vh_court_pauses vh_seen_groups vh_seen_kept vh_seen_flourishes vh_seen_longGroups vh_seen_reason vh_seen_sentences vh_seen_words vh_seen_left x2).bind fun q_7 => ((f_X3_saysTheSameAs q_7.2.2.2.2.2.1 q_7.2.2.2.2.2.2.2 vh_plain_sentences vh_plain_left).bind fun q_8 => (if q_8 = 0 then (f_X4_courtiersMisled_L16 fu vh_court_bows vh_court_settings vh_court_eyes vh_court_numbers vh_court_pauses q_7.1 q_7.2.1 q_7.2.2.1 q_7.2.2.2.1 q_7.2.2.2.2.1 q_7.2.2.2.2.2.1 q_7.2.2.2.2.2.2.1 q_7.2.2.2.2.2.2.2 vh_plain_groups vh_plain_kept vh_plain_flourishes vh_plain_longGroups vh_plain_reason vh_plain_sentences vh_plain_words vh_plain_left ((x1 + 1)) ((x2 + 1))) else (f_X4_courtiersMisled_L16 fu vh_court_bows vh_court_settings vh_court_eyes vh_court_numbers vh_court_pauses q_7.1 q_7.2.1 q_7.2.2.1 q_7.2.2.2.1 q_7.2.2.2.2.1 q_7.2.2.2.2.2.1 q_7.2.2.2.2.2.2.1 q_7.2.2.2.2.2.2.2 vh_plain_groups vh_plain_kept vh_plain_flourishes vh_plain_longGroups vh_plain_reason vh_plain_sentences vh_plain_words vh_plain_left x1 ((x2 + 1)))))))
set_option maxHeartbeats 4000000 in
set_option maxRecDepth 100000 in
theorem s_X4_courtiersMisled_L16 (l : Launch) (g : bwG) (ah ah_court ah_pad ah_history ah_slots ah_seen ah_plain ah_trial ah_court_settings ah_court_eyes ah_court_favours ah_court_numbers ah_court_pauses ah_seen_words ah_seen_left ah_plain_words ah_plain_left : Nat) (fu : Nat) : ∀ (vh_court_bows : Int32) (vh_court_given : Int32) (vh_court_taken : Int32) (vh_court_settings : Nat → Int32) (vh_court_eyes : Nat → Int32) (vh_court_numbers : Nat → Int32) (vh_court_pauses : Nat → Int32) (vh_seen_groups : Int32) (vh_seen_kept : Int32) (vh_seen_flourishes : Int32) (vh_seen_longGroups : Int32) (vh_seen_reason : Int32) (vh_seen_sentences : Int32) (vh_seen_words : Nat → Int32) (vh_seen_left : Nat → Int32) (vh_plain_groups : Int32) (vh_plain_kept : Int32) (vh_plain_flourishes : Int32) (vh_plain_longGroups : Int32) (vh_plain_reason : Int32) (vh_plain_sentences : Int32) (vh_plain_words : Nat → Int32) (vh_plain_left : Nat → Int32) (x1 : Int32) (x2 : Int32) (res : Int32 × (Int32) × (Int32) × (Int32) × (Int32) × (Int32) × (Int32) × (Nat → Int32) × (Nat → Int32) × (Int32) × (Int32) × (Int32) × (Int32) × (Int32) × (Int32) × (Nat → Int32) × (Nat → Int32)), f_X4_courtiersMisled_L16 fu vh_court_bows vh_court_settings vh_court_eyes vh_court_numbers vh_court_pauses vh_seen_groups vh_seen_kept vh_seen_flourishes vh_seen_longGroups vh_seen_reason vh_seen_sentences vh_seen_words vh_seen_left vh_plain_groups vh_plain_kept vh_plain_flourishes vh_plain_longGroups vh_plain_reason vh_plain_sentences vh_plain_words vh_plain_left x1 x2 = some res → bwR l g cX4_courtiersMisled 3 RX4 "courtiersMisled" (some .int) ({ frames := 5, cells := 0, slots := 0, locals := 112 } : Room) bwT (bwZ g (fun r w => r = some (.int res.1) ∧ w = [(ah, .inr (4, [.ref ah_court, .ref ah_pad, .ref ah_history, .ref ah_slots, .ref ah_seen, .ref ah_plain, .ref ah_trial])), (ah_court, .inr (0, [.ref ah_court_settings, .ref ah_court_eyes, .ref ah_court_favours, .ref ah_court_numbers, .ref ah_court_pauses, .int vh_court_bows, .int vh_court_given, .int vh_court_taken])), (ah_court_settings, .inl (g.2.1, 3, .inl vh_court_settings)), (ah_court_eyes, .inl (g.2.1, 6, .inl vh_court_eyes)), (ah_court_numbers, .inl (g.2.1, 24, .inl vh_court_numbers)), (ah_court_pauses, .inl (g.2.1, 24, .inl vh_court_pauses)), (ah_seen, .inr (3, [.ref ah_seen_words, .int res.2.1, .ref ah_seen_left, .int res.2.2.1, .int res.2.2.2.1, .int res.2.2.2.2.1, .int res.2.2.2.2.2.1, .int res.2.2.2.2.2.2.1])), (ah_seen_words, .inl (g.2.1, 24, .inl res.2.2.2.2.2.2.2.1)), (ah_seen_left, .inl (g.2.1, 24, .inl res.2.2.2.2.2.2.2.2.1)), (ah_plain, .inr (3, [.ref ah_plain_words, .int res.2.2.2.2.2.2.2.2.2.1, .ref ah_plain_left, .int res.2.2.2.2.2.2.2.2.2.2.1, .int res.2.2.2.2.2.2.2.2.2.2.2.1, .int res.2.2.2.2.2.2.2.2.2.2.2.2.1, .int res.2.2.2.2.2.2.2.2.2.2.2.2.2.1, .int res.2.2.2.2.2.2.2.2.2.2.2.2.2.2.1])), (ah_plain_words, .inl (g.2.1, 24, .inl res.2.2.2.2.2.2.2.2.2.2.2.2.2.2.2.1)), (ah_plain_left, .inl (g.2.1, 24, .inl res.2.2.2.2.2.2.2.2.2.2.2.2.2.2.2.2))]) 0 0) 16 [(0, .ref ah), (1, .int x1), (2, .int x2)] [] ([(ah, .inr (4, [.ref ah_court, .ref ah_pad, .ref ah_history, .ref ah_slots, .ref ah_seen, .ref ah_plain, .ref ah_trial])), (ah_court, .inr (0, [.ref ah_court_settings, .ref ah_court_eyes, .ref ah_court_favours, .ref ah_court_numbers, .ref ah_court_pauses, .int vh_court_bows, .int vh_court_given, .int vh_court_taken])), (ah_court_settings, .inl (g.2.1, 3, .inl vh_court_settings)), (ah_court_eyes, .inl (g.2.1, 6, .inl vh_court_eyes)), (ah_court_numbers, .inl (g.2.1, 24, .inl vh_court_numbers)), (ah_court_pauses, .inl (g.2.1, 24, .inl vh_court_pauses)), (ah_seen, .inr (3, [.ref ah_seen_words, .int vh_seen_groups, .ref ah_seen_left, .int vh_seen_kept, .int vh_seen_flourishes, .int vh_seen_longGroups, .int vh_seen_reason, .int vh_seen_sentences])), (ah_seen_words, .inl (g.2.1, 24, .inl vh_seen_words)), (ah_seen_left, .inl (g.2.1, 24, .inl vh_seen_left)), (ah_plain, .inr (3, [.ref ah_plain_words, .int vh_plain_groups, .ref ah_plain_left, .int vh_plain_kept, .int vh_plain_flourishes, .int vh_plain_longGroups, .int vh_plain_reason, .int vh_plain_sentences])), (ah_plain_words, .inl (g.2.1, 24, .inl vh_plain_words)), (ah_plain_left, .inl (g.2.1, 24, .inl vh_plain_left))]) 0 0 := by
  induction fu with
  | zero => intro vh_court_bows vh_court_given vh_court_taken vh_court_settings vh_court_eyes vh_court_numbers vh_court_pauses vh_seen_groups vh_seen_kept vh_seen_flourishes vh_seen_longGroups vh_seen_reason vh_seen_sentences vh_seen_words vh_seen_left vh_plain_groups vh_plain_kept vh_plain_flourishes vh_plain_longGroups vh_plain_reason vh_plain_sentences vh_plain_words vh_plain_left x1 x2 res hf; exact absurd hf (by intro h; cases h)
  | succ fu ih =>
    intro vh_court_bows vh_court_given vh_court_taken vh_court_settings vh_court_eyes vh_court_numbers vh_court_pauses vh_seen_groups vh_seen_kept vh_seen_flourishes vh_seen_longGroups vh_seen_reason vh_seen_sentences vh_seen_words vh_seen_left vh_plain_groups vh_plain_kept vh_plain_flourishes vh_plain_longGroups vh_plain_reason vh_plain_sentences vh_plain_words vh_plain_left x1 x2 res hf
    rw [f_X4_courtiersMisled_L16] at hf
    refine bw_iload_n 2 dX4_courtiersMisled_16 rfl rfl ?_
    refine bw_bipush 6 dX4_courtiersMisled_17 (by decide) ?_
    refine bw_icmp_ge 50 dX4_courtiersMisled_19 (by decide) (fun c_6 => ?_) (fun c_6 => ?_)
    · have hf := bw_pos c_6 hf
      refine bw_iload_n 1 dX4_courtiersMisled_50 rfl rfl ?_
      cases Option.some.inj hf
      exact bw_ret rfl rfl (Nat.le_of_ble_eq_true rfl) (Nat.le_of_ble_eq_true rfl) dX4_courtiersMisled_51 ⟨rfl, rfl⟩
    · have hf := bw_neg c_6 hf
      refine bw_aload_n 0 dX4_courtiersMisled_22 rfl rfl ?_
      refine bw_iload_n 2 dX4_courtiersMisled_23 rfl rfl ?_
      obtain ⟨q_7, hc_7, hf⟩ := bw_bind hf
      refine bw_callV [.int x2] [] [(ah_plain, .inr (3, [.ref ah_plain_words, .int vh_plain_groups, .ref ah_plain_left, .int vh_plain_kept, .int vh_plain_flourishes, .int vh_plain_longGroups, .int vh_plain_reason, .int vh_plain_sentences])), (ah_plain_words, .inl (g.2.1, 24, .inl vh_plain_words)), (ah_plain_left, .inl (g.2.1, 24, .inl vh_plain_left))] 0 4 (s_X4_lookThroughEyesOf l g ah ah_court ah_pad ah_history ah_slots ah_seen ah_plain ah_trial ah_court_settings ah_court_eyes ah_court_favours ah_court_numbers ah_court_pauses ah_seen_words ah_seen_left vh_court_bows vh_court_given vh_court_taken vh_court_settings vh_court_eyes vh_court_numbers vh_court_pauses vh_seen_groups vh_seen_kept vh_seen_flourishes vh_seen_longGroups vh_seen_reason vh_seen_sentences vh_seen_words vh_seen_left x2 _ hc_7) rfl co_X4_lookThroughEyesOf ini_X4 ml_X4_104 im_X4_lookThroughEyesOf se_X4_lookThroughEyesOf ar_X4_lookThroughEyesOf ⟨Nat.le_of_ble_eq_true rfl, Nat.le_of_ble_eq_true rfl⟩ ⟨Nat.le_of_ble_eq_true rfl, Nat.le_of_ble_eq_true rfl⟩ rfl rfl (bw_pick1 12 [0, 1, 2, 3, 4, 5, 6, 7, 8, 9, 10, 11] rfl rfl (by decide)) (Nat.le_of_ble_eq_true rfl) dX4_courtiersMisled_24 (fun r w1 hq => ?_)
      obtain ⟨rfl, rfl⟩ := hq
      refine bw_perm (ws1 := [(ah, .inr (4, [.ref ah_court, .ref ah_pad, .ref ah_history, .ref ah_slots, .ref ah_seen, .ref ah_plain, .ref ah_trial])), (ah_court, .inr (0, [.ref ah_court_settings, .ref ah_court_eyes, .ref ah_court_favours, .ref ah_court_numbers, .ref ah_court_pauses, .int vh_court_bows, .int vh_court_given, .int vh_court_taken])), (ah_court_settings, .inl (g.2.1, 3, .inl vh_court_settings)), (ah_court_eyes, .inl (g.2.1, 6, .inl vh_court_eyes)), (ah_court_numbers, .inl (g.2.1, 24, .inl vh_court_numbers)), (ah_court_pauses, .inl (g.2.1, 24, .inl vh_court_pauses)), (ah_seen, .inr (3, [.ref ah_seen_words, .int q_7.1, .ref ah_seen_left, .int q_7.2.1, .int q_7.2.2.1, .int q_7.2.2.2.1, .int q_7.2.2.2.2.1, .int q_7.2.2.2.2.2.1])), (ah_seen_words, .inl (g.2.1, 24, .inl q_7.2.2.2.2.2.2.1)), (ah_seen_left, .inl (g.2.1, 24, .inl q_7.2.2.2.2.2.2.2)), (ah_plain, .inr (3, [.ref ah_plain_words, .int vh_plain_groups, .ref ah_plain_left, .int vh_plain_kept, .int vh_plain_flourishes, .int vh_plain_longGroups, .int vh_plain_reason, .int vh_plain_sentences])), (ah_plain_words, .inl (g.2.1, 24, .inl vh_plain_words)), (ah_plain_left, .inl (g.2.1, 24, .inl vh_plain_left))]) (bw_pick1 12 [3, 4, 5, 6, 7, 8, 9, 10, 11, 0, 1, 2] rfl rfl (by decide)) ?_
      refine bw_st (st1 := []) rfl ?_
      refine bw_aload_n 0 dX4_courtiersMisled_27 rfl rfl ?_
      refine bw_gf bkX4 0 4 (by decide) fl_X4_37 rfl rfl dX4_courtiersMisled_28 ?_
      refine bw_aload_n 0 dX4_courtiersMisled_31 rfl rfl ?_
      refine bw_gf bkX4 0 5 (by decide) fl_X4_41 rfl rfl dX4_courtiersMisled_32 ?_
      obtain ⟨q_8, hc_8, hf⟩ := bw_bind hf
      refine bw_callV [.ref ah_plain] [] [(ah, .inr (4, [.ref ah_court, .ref ah_pad, .ref ah_history, .ref ah_slots, .ref ah_seen, .ref ah_plain, .ref ah_trial])), (ah_court, .inr (0, [.ref ah_court_settings, .ref ah_court_eyes, .ref ah_court_favours, .ref ah_court_numbers, .ref ah_court_pauses, .int vh_court_bows, .int vh_court_given, .int vh_court_taken])), (ah_court_settings, .inl (g.2.1, 3, .inl vh_court_settings)), (ah_court_eyes, .inl (g.2.1, 6, .inl vh_court_eyes)), (ah_court_numbers, .inl (g.2.1, 24, .inl vh_court_numbers)), (ah_court_pauses, .inl (g.2.1, 24, .inl vh_court_pauses)), (ah_seen_words, .inl (g.2.1, 24, .inl q_7.2.2.2.2.2.2.1)), (ah_plain_words, .inl (g.2.1, 24, .inl vh_plain_words))] 0 3 (s_X3_saysTheSameAs l g ah_seen ah_seen_words ah_seen_left ah_plain ah_plain_words ah_plain_left q_7.1 q_7.2.1 q_7.2.2.1 q_7.2.2.2.1 q_7.2.2.2.2.1 q_7.2.2.2.2.2.1 q_7.2.2.2.2.2.2.2 vh_plain_groups vh_plain_kept vh_plain_flourishes vh_plain_longGroups vh_plain_reason vh_plain_sentences vh_plain_left  _ hc_8) rfl co_X3_saysTheSameAs ini_X3 ml_X4_210 im_X3_saysTheSameAs se_X3_saysTheSameAs ar_X3_saysTheSameAs ⟨Nat.le_of_ble_eq_true rfl, Nat.le_of_ble_eq_true rfl⟩ ⟨Nat.le_of_ble_eq_true rfl, Nat.le_of_ble_eq_true rfl⟩ rfl rfl (bw_pick1 12 [6, 8, 9, 11, 0, 1, 2, 3, 4, 5, 7, 10] rfl rfl (by decide)) (Nat.le_of_ble_eq_true rfl) dX4_courtiersMisled_35 (fun r w1 hq => ?_)
      obtain ⟨rfl, rfl⟩ := hq
      refine bw_perm (ws1 := [(ah, .inr (4, [.ref ah_court, .ref ah_pad, .ref ah_history, .ref ah_slots, .ref ah_seen, .ref ah_plain, .ref ah_trial])), (ah_court, .inr (0, [.ref ah_court_settings, .ref ah_court_eyes, .ref ah_court_favours, .ref ah_court_numbers, .ref ah_court_pauses, .int vh_court_bows, .int vh_court_given, .int vh_court_taken])), (ah_court_settings, .inl (g.2.1, 3, .inl vh_court_settings)), (ah_court_eyes, .inl (g.2.1, 6, .inl vh_court_eyes)), (ah_court_numbers, .inl (g.2.1, 24, .inl vh_court_numbers)), (ah_court_pauses, .inl (g.2.1, 24, .inl vh_court_pauses)), (ah_seen, .inr (3, [.ref ah_seen_words, .int q_7.1, .ref ah_seen_left, .int q_7.2.1, .int q_7.2.2.1, .int q_7.2.2.2.1, .int q_7.2.2.2.2.1, .int q_7.2.2.2.2.2.1])), (ah_seen_words, .inl (g.2.1, 24, .inl q_7.2.2.2.2.2.2.1)), (ah_seen_left, .inl (g.2.1, 24, .inl q_7.2.2.2.2.2.2.2)), (ah_plain, .inr (3, [.ref ah_plain_words, .int vh_plain_groups, .ref ah_plain_left, .int vh_plain_kept, .int vh_plain_flourishes, .int vh_plain_longGroups, .int vh_plain_reason, .int vh_plain_sentences])), (ah_plain_words, .inl (g.2.1, 24, .inl vh_plain_words)), (ah_plain_left, .inl (g.2.1, 24, .inl vh_plain_left))]) (bw_pick1 12 [0, 1, 2, 3, 4, 5, 8, 6, 9, 10, 7, 11] rfl rfl (by decide)) ?_
      refine bw_st (st1 := [.int q_8]) rfl ?_
      refine bw_if_ne 44 dX4_courtiersMisled_38 (by decide) (fun c_9 => ?_) (fun c_9 => ?_)
      · have hf := bw_neg c_9 hf
        refine bw_iinc 2 (x2 + 1) [(2, .int ((x2 + 1))), (0, .ref ah), (1, .int x1)] dX4_courtiersMisled_44 rfl rfl (by decide) rfl ?_
        refine bw_goto 16 dX4_courtiersMisled_47 (by decide) ?_
        refine bw_lv [1, 2, 0] rfl ?_
        exact ih vh_court_bows vh_court_given vh_court_taken vh_court_settings vh_court_eyes vh_court_numbers vh_court_pauses q_7.1 q_7.2.1 q_7.2.2.1 q_7.2.2.2.1 q_7.2.2.2.2.1 q_7.2.2.2.2.2.1 q_7.2.2.2.2.2.2.1 q_7.2.2.2.2.2.2.2 vh_plain_groups vh_plain_kept vh_plain_flourishes vh_plain_longGroups vh_plain_reason vh_plain_sentences vh_plain_words vh_plain_left x1 ((x2 + 1)) _ hf
      · have hf := bw_pos c_9 hf
        refine bw_iinc 1 (x1 + 1) [(1, .int ((x1 + 1))), (0, .ref ah), (2, .int x2)] dX4_courtiersMisled_41 rfl rfl (by decide) rfl ?_
        refine bw_iinc 2 (x2 + 1) [(2, .int ((x2 + 1))), (1, .int ((x1 + 1))), (0, .ref ah)] dX4_courtiersMisled_44 rfl rfl (by decide) rfl ?_
        refine bw_goto 16 dX4_courtiersMisled_47 (by decide) ?_
        refine bw_lv [2, 1, 0] rfl ?_
        exact ih vh_court_bows vh_court_given vh_court_taken vh_court_settings vh_court_eyes vh_court_numbers vh_court_pauses q_7.1 q_7.2.1 q_7.2.2.1 q_7.2.2.2.1 q_7.2.2.2.2.1 q_7.2.2.2.2.2.1 q_7.2.2.2.2.2.2.1 q_7.2.2.2.2.2.2.2 vh_plain_groups vh_plain_kept vh_plain_flourishes vh_plain_longGroups vh_plain_reason vh_plain_sentences vh_plain_words vh_plain_left ((x1 + 1)) ((x2 + 1)) _ hf
theorem ar_X4_courtiersMisled : yX4_courtiersMisled.cls ≠ "java/lang/invoke/MethodHandle" ∧ yX4_courtiersMisled.cls ≠ "java/lang/invoke/VarHandle" ∧ (parseMethodDescriptor yX4_courtiersMisled.desc).map (fun d => d.parameters.length) = some 0 := ⟨by decide, by decide, by decide +kernel⟩
def f_X4_courtiersMisled (vh_court_bows : Int32) (vh_court_settings : Nat → Int32) (vh_court_eyes : Nat → Int32) (vh_court_numbers : Nat → Int32) (vh_court_pauses : Nat → Int32) (vh_seen_groups : Int32) (vh_seen_kept : Int32) (vh_seen_flourishes : Int32) (vh_seen_longGroups : Int32) (vh_seen_reason : Int32) (vh_seen_sentences : Int32) (vh_seen_words : Nat → Int32) (vh_seen_left : Nat → Int32) (vh_plain_groups : Int32) (vh_plain_kept : Int32) (vh_plain_flourishes : Int32) (vh_plain_longGroups : Int32) (vh_plain_reason : Int32) (vh_plain_sentences : Int32) (vh_plain_words : Nat → Int32) (vh_plain_left : Nat → Int32)  : Option (Int32 × (Int32) × (Int32) × (Int32) × (Int32) × (Int32) × (Int32) × (Nat → Int32) × (Nat → Int32) × (Int32) × (Int32) × (Int32) × (Int32) × (Int32) × (Int32) × (Nat → Int32) × (Nat → Int32)) := ((f_X3_look vh_plain_groups vh_plain_kept vh_plain_flourishes vh_plain_longGroups vh_plain_reason vh_plain_sentences vh_plain_words vh_plain_left vh_court_bows vh_court_settings vh_court_numbers vh_court_pauses 0).bind fun q_10 => (f_X4_courtiersMisled_L16 bw_F vh_court_bows vh_court_settings vh_court_eyes vh_court_numbers vh_court_pauses vh_seen_groups vh_seen_kept vh_seen_flourishes vh_seen_longGroups vh_seen_reason vh_seen_sentences vh_seen_words vh_seen_left q_10.1 q_10.2.1 q_10.2.2.1 q_10.2.2.2.1 q_10.2.2.2.2.1 q_10.2.2.2.2.2.1 q_10.2.2.2.2.2.2.1 q_10.2.2.2.2.2.2.2 0 0))
set_option maxHeartbeats 4000000 in
set_option maxRecDepth 100000 in
theorem s_X4_courtiersMisled (l : Launch) (g : bwG) (ah ah_court ah_pad ah_history ah_slots ah_seen ah_plain ah_trial ah_court_settings ah_court_eyes ah_court_favours ah_court_numbers ah_court_pauses ah_seen_words ah_seen_left ah_plain_words ah_plain_left : Nat) (vh_court_bows : Int32) (vh_court_given : Int32) (vh_court_taken : Int32) (vh_court_settings : Nat → Int32) (vh_court_eyes : Nat → Int32) (vh_court_numbers : Nat → Int32) (vh_court_pauses : Nat → Int32) (vh_seen_groups : Int32) (vh_seen_kept : Int32) (vh_seen_flourishes : Int32) (vh_seen_longGroups : Int32) (vh_seen_reason : Int32) (vh_seen_sentences : Int32) (vh_seen_words : Nat → Int32) (vh_seen_left : Nat → Int32) (vh_plain_groups : Int32) (vh_plain_kept : Int32) (vh_plain_flourishes : Int32) (vh_plain_longGroups : Int32) (vh_plain_reason : Int32) (vh_plain_sentences : Int32) (vh_plain_words : Nat → Int32) (vh_plain_left : Nat → Int32)  (res : Int32 × (Int32) × (Int32) × (Int32) × (Int32) × (Int32) × (Int32) × (Nat → Int32) × (Nat → Int32) × (Int32) × (Int32) × (Int32) × (Int32) × (Int32) × (Int32) × (Nat → Int32) × (Nat → Int32)) (hf : f_X4_courtiersMisled vh_court_bows vh_court_settings vh_court_eyes vh_court_numbers vh_court_pauses vh_seen_groups vh_seen_kept vh_seen_flourishes vh_seen_longGroups vh_seen_reason vh_seen_sentences vh_seen_words vh_seen_left vh_plain_groups vh_plain_kept vh_plain_flourishes vh_plain_longGroups vh_plain_reason vh_plain_sentences vh_plain_words vh_plain_left  = some res) : bwS l g yX4_courtiersMisled cX4_courtiersMisled 3 (some .int) ({ frames := 5, cells := 0, slots := 0, locals := 112 } : Room) [.ref ah] ([(ah, .inr (4, [.ref ah_court, .ref ah_pad, .ref ah_history, .ref ah_slots, .ref ah_seen, .ref ah_plain, .ref ah_trial])), (ah_court, .inr (0, [.ref ah_court_settings, .ref ah_court_eyes, .ref ah_court_favours, .ref ah_court_numbers, .ref ah_court_pauses, .int vh_court_bows, .int vh_court_given, .int vh_court_taken])), (ah_court_settings, .inl (g.2.1, 3, .inl vh_court_settings)), (ah_court_eyes, .inl (g.2.1, 6, .inl vh_court_eyes)), (ah_court_numbers, .inl (g.2.1, 24, .inl vh_court_numbers)), (ah_court_pauses, .inl (g.2.1, 24, .inl vh_court_pauses)), (ah_seen, .inr (3, [.ref ah_seen_words, .int vh_seen_groups, .ref ah_seen_left, .int vh_seen_kept, .int vh_seen_flourishes, .int vh_seen_longGroups, .int vh_seen_reason, .int vh_seen_sentences])), (ah_seen_words, .inl (g.2.1, 24, .inl vh_seen_words)), (ah_seen_left, .inl (g.2.1, 24, .inl vh_seen_left)), (ah_plain, .inr (3, [.ref ah_plain_words, .int vh_plain_groups, .ref ah_plain_left, .int vh_plain_kept, .int vh_plain_flourishes, .int vh_plain_longGroups, .int vh_plain_reason, .int vh_plain_sentences])), (ah_plain_words, .inl (g.2.1, 24, .inl vh_plain_words)), (ah_plain_left, .inl (g.2.1, 24, .inl vh_plain_left))]) (fun r w => r = some (.int res.1) ∧ w = [(ah, .inr (4, [.ref ah_court, .ref ah_pad, .ref ah_history, .ref ah_slots, .ref ah_seen, .ref ah_plain, .ref ah_trial])), (ah_court, .inr (0, [.ref ah_court_settings, .ref ah_court_eyes, .ref ah_court_favours, .ref ah_court_numbers, .ref ah_court_pauses, .int vh_court_bows, .int vh_court_given, .int vh_court_taken])), (ah_court_settings, .inl (g.2.1, 3, .inl vh_court_settings)), (ah_court_eyes, .inl (g.2.1, 6, .inl vh_court_eyes)), (ah_court_numbers, .inl (g.2.1, 24, .inl vh_court_numbers)), (ah_court_pauses, .inl (g.2.1, 24, .inl vh_court_pauses)), (ah_seen, .inr (3, [.ref ah_seen_words, .int res.2.1, .ref ah_seen_left, .int res.2.2.1, .int res.2.2.2.1, .int res.2.2.2.2.1, .int res.2.2.2.2.2.1, .int res.2.2.2.2.2.2.1])), (ah_seen_words, .inl (g.2.1, 24, .inl res.2.2.2.2.2.2.2.1)), (ah_seen_left, .inl (g.2.1, 24, .inl res.2.2.2.2.2.2.2.2.1)), (ah_plain, .inr (3, [.ref ah_plain_words, .int res.2.2.2.2.2.2.2.2.2.1, .ref ah_plain_left, .int res.2.2.2.2.2.2.2.2.2.2.1, .int res.2.2.2.2.2.2.2.2.2.2.2.1, .int res.2.2.2.2.2.2.2.2.2.2.2.2.1, .int res.2.2.2.2.2.2.2.2.2.2.2.2.2.1, .int res.2.2.2.2.2.2.2.2.2.2.2.2.2.2.1])), (ah_plain_words, .inl (g.2.1, 24, .inl res.2.2.2.2.2.2.2.2.2.2.2.2.2.2.2.1)), (ah_plain_left, .inl (g.2.1, 24, .inl res.2.2.2.2.2.2.2.2.2.2.2.2.2.2.2.2))]) := by
  refine bwS_of (by decide) (Nat.le_of_ble_eq_true rfl) ?_
  unfold f_X4_courtiersMisled at hf
  show bwR l g cX4_courtiersMisled 3 RX4 "courtiersMisled" (some .int) ({ frames := 5, cells := 0, slots := 0, locals := 112 } : Room) bwT (bwZ g (fun r w => r = some (.int res.1) ∧ w = [(ah, .inr (4, [.ref ah_court, .ref ah_pad, .ref ah_history, .ref ah_slots, .ref ah_seen, .ref ah_plain, .ref ah_trial])), (ah_court, .inr (0, [.ref ah_court_settings, .ref ah_court_eyes, .ref ah_court_favours, .ref ah_court_numbers, .ref ah_court_pauses, .int vh_court_bows, .int vh_court_given, .int vh_court_taken])), (ah_court_settings, .inl (g.2.1, 3, .inl vh_court_settings)), (ah_court_eyes, .inl (g.2.1, 6, .inl vh_court_eyes)), (ah_court_numbers, .inl (g.2.1, 24, .inl vh_court_numbers)), (ah_court_pauses, .inl (g.2.1, 24, .inl vh_court_pauses)), (ah_seen, .inr (3, [.ref ah_seen_words, .int res.2.1, .ref ah_seen_left, .int res.2.2.1, .int res.2.2.2.1, .int res.2.2.2.2.1, .int res.2.2.2.2.2.1, .int res.2.2.2.2.2.2.1])), (ah_seen_words, .inl (g.2.1, 24, .inl res.2.2.2.2.2.2.2.1)), (ah_seen_left, .inl (g.2.1, 24, .inl res.2.2.2.2.2.2.2.2.1)), (ah_plain, .inr (3, [.ref ah_plain_words, .int res.2.2.2.2.2.2.2.2.2.1, .ref ah_plain_left, .int res.2.2.2.2.2.2.2.2.2.2.1, .int res.2.2.2.2.2.2.2.2.2.2.2.1, .int res.2.2.2.2.2.2.2.2.2.2.2.2.1, .int res.2.2.2.2.2.2.2.2.2.2.2.2.2.1, .int res.2.2.2.2.2.2.2.2.2.2.2.2.2.2.1])), (ah_plain_words, .inl (g.2.1, 24, .inl res.2.2.2.2.2.2.2.2.2.2.2.2.2.2.2.1)), (ah_plain_left, .inl (g.2.1, 24, .inl res.2.2.2.2.2.2.2.2.2.2.2.2.2.2.2.2))]) 0 0) 0 [(0, .ref ah)] [] ([(ah, .inr (4, [.ref ah_court, .ref ah_pad, .ref ah_history, .ref ah_slots, .ref ah_seen, .ref ah_plain, .ref ah_trial])), (ah_court, .inr (0, [.ref ah_court_settings, .ref ah_court_eyes, .ref ah_court_favours, .ref ah_court_numbers, .ref ah_court_pauses, .int vh_court_bows, .int vh_court_given, .int vh_court_taken])), (ah_court_settings, .inl (g.2.1, 3, .inl vh_court_settings)), (ah_court_eyes, .inl (g.2.1, 6, .inl vh_court_eyes)), (ah_court_numbers, .inl (g.2.1, 24, .inl vh_court_numbers)), (ah_court_pauses, .inl (g.2.1, 24, .inl vh_court_pauses)), (ah_seen, .inr (3, [.ref ah_seen_words, .int vh_seen_groups, .ref ah_seen_left, .int vh_seen_kept, .int vh_seen_flourishes, .int vh_seen_longGroups, .int vh_seen_reason, .int vh_seen_sentences])), (ah_seen_words, .inl (g.2.1, 24, .inl vh_seen_words)), (ah_seen_left, .inl (g.2.1, 24, .inl vh_seen_left)), (ah_plain, .inr (3, [.ref ah_plain_words, .int vh_plain_groups, .ref ah_plain_left, .int vh_plain_kept, .int vh_plain_flourishes, .int vh_plain_longGroups, .int vh_plain_reason, .int vh_plain_sentences])), (ah_plain_words, .inl (g.2.1, 24, .inl vh_plain_words)), (ah_plain_left, .inl (g.2.1, 24, .inl vh_plain_left))]) 0 0
  refine bw_aload_n 0 dX4_courtiersMisled_0 rfl rfl ?_
  refine bw_gf bkX4 0 5 (by decide) fl_X4_41 rfl rfl dX4_courtiersMisled_1 ?_
  refine bw_aload_n 0 dX4_courtiersMisled_4 rfl rfl ?_
  refine bw_gf bkX4 0 0 (by decide) fl_X4_10 rfl rfl dX4_courtiersMisled_5 ?_
  refine bw_iconst 0 dX4_courtiersMisled_8 (by decide) ?_
  obtain ⟨q_10, hc_10, hf⟩ := bw_bind hf
  refine bw_callV [.ref ah_court, .int 0] [] [(ah, .inr (4, [.ref ah_court, .ref ah_pad, .ref ah_history, .ref ah_slots, .ref ah_seen, .ref ah_plain, .ref ah_trial])), (ah_court_eyes, .inl (g.2.1, 6, .inl vh_court_eyes)), (ah_seen, .inr (3, [.ref ah_seen_words, .int vh_seen_groups, .ref ah_seen_left, .int vh_seen_kept, .int vh_seen_flourishes, .int vh_seen_longGroups, .int vh_seen_reason, .int vh_seen_sentences])), (ah_seen_words, .inl (g.2.1, 24, .inl vh_seen_words)), (ah_seen_left, .inl (g.2.1, 24, .inl vh_seen_left))] 0 3 (s_X3_look l g ah_plain ah_plain_words ah_plain_left ah_court ah_court_settings ah_court_eyes ah_court_favours ah_court_numbers ah_court_pauses vh_plain_groups vh_plain_kept vh_plain_flourishes vh_plain_longGroups vh_plain_reason vh_plain_sentences vh_plain_words vh_plain_left vh_court_bows vh_court_given vh_court_taken vh_court_settings vh_court_numbers vh_court_pauses 0 _ hc_10) rfl co_X3_look ini_X3 ml_X4_126 im_X3_look se_X3_look ar_X3_look ⟨Nat.le_of_ble_eq_true rfl, Nat.le_of_ble_eq_true rfl⟩ ⟨Nat.le_of_ble_eq_true rfl, Nat.le_of_ble_eq_true rfl⟩ rfl rfl (bw_pick1 12 [9, 10, 11, 1, 2, 4, 5, 0, 3, 6, 7, 8] rfl rfl (by decide)) (Nat.le_of_ble_eq_true rfl) dX4_courtiersMisled_9 (fun r w1 hq => ?_)
  obtain ⟨rfl, rfl⟩ := hq
  refine bw_perm (ws1 := [(ah, .inr (4, [.ref ah_court, .ref ah_pad, .ref ah_history, .ref ah_slots, .ref ah_seen, .ref ah_plain, .ref ah_trial])), (ah_court, .inr (0, [.ref ah_court_settings, .ref ah_court_eyes, .ref ah_court_favours, .ref ah_court_numbers, .ref ah_court_pauses, .int vh_court_bows, .int vh_court_given, .int vh_court_taken])), (ah_court_settings, .inl (g.2.1, 3, .inl vh_court_settings)), (ah_court_eyes, .inl (g.2.1, 6, .inl vh_court_eyes)), (ah_court_numbers, .inl (g.2.1, 24, .inl vh_court_numbers)), (ah_court_pauses, .inl (g.2.1, 24, .inl vh_court_pauses)), (ah_seen, .inr (3, [.ref ah_seen_words, .int vh_seen_groups, .ref ah_seen_left, .int vh_seen_kept, .int vh_seen_flourishes, .int vh_seen_longGroups, .int vh_seen_reason, .int vh_seen_sentences])), (ah_seen_words, .inl (g.2.1, 24, .inl vh_seen_words)), (ah_seen_left, .inl (g.2.1, 24, .inl vh_seen_left)), (ah_plain, .inr (3, [.ref ah_plain_words, .int q_10.1, .ref ah_plain_left, .int q_10.2.1, .int q_10.2.2.1, .int q_10.2.2.2.1, .int q_10.2.2.2.2.1, .int q_10.2.2.2.2.2.1])), (ah_plain_words, .inl (g.2.1, 24, .inl q_10.2.2.2.2.2.2.1)), (ah_plain_left, .inl (g.2.1, 24, .inl q_10.2.2.2.2.2.2.2))]) (bw_pick1 12 [0, 8, 9, 1, 10, 11, 2, 3, 4, 5, 6, 7] rfl rfl (by decide)) ?_
  refine bw_st (st1 := []) rfl ?_
  refine bw_iconst 0 dX4_courtiersMisled_12 (by decide) ?_
  refine bw_istore_n [(1, .int 0), (0, .ref ah)] dX4_courtiersMisled_13 rfl (by decide) rfl ?_
  refine bw_iconst 0 dX4_courtiersMisled_14 (by decide) ?_
  refine bw_istore_n [(2, .int 0), (1, .int 0), (0, .ref ah)] dX4_courtiersMisled_15 rfl (by decide) rfl ?_
  refine bw_lv [2, 1, 0] rfl ?_
  exact s_X4_courtiersMisled_L16 l g ah ah_court ah_pad ah_history ah_slots ah_seen ah_plain ah_trial ah_court_settings ah_court_eyes ah_court_favours ah_court_numbers ah_court_pauses ah_seen_words ah_seen_left ah_plain_words ah_plain_left bw_F vh_court_bows vh_court_given vh_court_taken vh_court_settings vh_court_eyes vh_court_numbers vh_court_pauses vh_seen_groups vh_seen_kept vh_seen_flourishes vh_seen_longGroups vh_seen_reason vh_seen_sentences vh_seen_words vh_seen_left q_10.1 q_10.2.1 q_10.2.2.1 q_10.2.2.2.1 q_10.2.2.2.2.1 q_10.2.2.2.2.2.1 q_10.2.2.2.2.2.2.1 q_10.2.2.2.2.2.2.2 0 0 _ hf
def f_X4_favoursOfCourtier_L4 : Nat → (Nat → Int32) → (Int32) → (Int32) → (Int32) → Option (Int32)
  | 0, _, _, _, _ => none
  | fu + 1, vh_court_favours, x1, x2, x3 => (if 6 ≤ x3 then some x2 else ((f_X4_favourIndex x1 x3).bind fun q_5 => ((f_X4_at 36 vh_court_favours q_5).bind fun q_6 => (f_X4_favoursOfCourtier_L4 fu vh_court_favours x1 ((x2 + q_6)) ((x3 + 1))))))
set_option maxHeartbeats 4000000 in
set_option maxRecDepth 100000 in
theorem s_X4_favoursOfCourtier_L4 (l : Launch) (g : bwG) (ah ah_court ah_pad ah_history ah_slots ah_seen ah_plain ah_trial ah_court_settings ah_court_eyes ah_court_favours ah_court_numbers ah_court_pauses : Nat) (fu : Nat) : ∀ (vh_court_bows : Int32) (vh_court_given : Int32) (vh_court_taken : Int32) (vh_court_favours : Nat → Int32) (x1 : Int32) (x2 : Int32) (x3 : Int32) (res : Int32), f_X4_favoursOfCourtier_L4 fu vh_court_favours x1 x2 x3 = some res → bwR l g cX4_favoursOfCourtier 4 RX4 "favoursOfCourtier" (some .int) ({ frames := 1, cells := 0, slots := 0, locals := 21 } : Room) bwT (bwZ g (fun r w => r = some (.int res) ∧ w = [(ah, .inr (4, [.ref ah_court, .ref ah_pad, .ref ah_history, .ref ah_slots, .ref ah_seen, .ref ah_plain, .ref ah_trial])), (ah_court, .inr (0, [.ref ah_court_settings, .ref ah_court_eyes, .ref ah_court_favours, .ref ah_court_numbers, .ref ah_court_pauses, .int vh_court_bows, .int vh_court_given, .int vh_court_taken])), (ah_court_favours, .inl (g.2.1, 36, .inl vh_court_favours))]) 0 0) 4 [(0, .ref ah), (1, .int x1), (2, .int x2), (3, .int x3)] [] ([(ah, .inr (4, [.ref ah_court, .ref ah_pad, .ref ah_history, .ref ah_slots, .ref ah_seen, .ref ah_plain, .ref ah_trial])), (ah_court, .inr (0, [.ref ah_court_settings, .ref ah_court_eyes, .ref ah_court_favours, .ref ah_court_numbers, .ref ah_court_pauses, .int vh_court_bows, .int vh_court_given, .int vh_court_taken])), (ah_court_favours, .inl (g.2.1, 36, .inl vh_court_favours))]) 0 0 := by
  induction fu with
  | zero => intro vh_court_bows vh_court_given vh_court_taken vh_court_favours x1 x2 x3 res hf; exact absurd hf (by intro h; cases h)
  | succ fu ih =>
    intro vh_court_bows vh_court_given vh_court_taken vh_court_favours x1 x2 x3 res hf
    rw [f_X4_favoursOfCourtier_L4] at hf
    refine bw_iload_n 3 dX4_favoursOfCourtier_4 rfl rfl ?_
    refine bw_bipush 6 dX4_favoursOfCourtier_5 (by decide) ?_
    refine bw_icmp_ge 34 dX4_favoursOfCourtier_7 (by decide) (fun c_4 => ?_) (fun c_4 => ?_)
    · have hf := bw_pos c_4 hf
      refine bw_iload_n 2 dX4_favoursOfCourtier_34 rfl rfl ?_
      cases Option.some.inj hf
      exact bw_ret rfl rfl (Nat.le_of_ble_eq_true rfl) (Nat.le_of_ble_eq_true rfl) dX4_favoursOfCourtier_35 ⟨rfl, rfl⟩
    · have hf := bw_neg c_4 hf
      refine bw_iload_n 2 dX4_favoursOfCourtier_10 rfl rfl ?_
      refine bw_aload_n 0 dX4_favoursOfCourtier_11 rfl rfl ?_
      refine bw_gf bkX4 0 0 (by decide) fl_X4_10 rfl rfl dX4_favoursOfCourtier_12 ?_
      refine bw_gf bkX0 1 2 (by decide) fl_X4_111 rfl rfl dX4_favoursOfCourtier_15 ?_
      refine bw_iload_n 1 dX4_favoursOfCourtier_18 rfl rfl ?_
      refine bw_iload_n 3 dX4_favoursOfCourtier_19 rfl rfl ?_
      obtain ⟨q_5, hc_5, hf⟩ := bw_bind hf
      refine bw_callS [.int x1, .int x3] [.ref ah_court_favours, .int x2] [(ah, .inr (4, [.ref ah_court, .ref ah_pad, .ref ah_history, .ref ah_slots, .ref ah_seen, .ref ah_plain, .ref ah_trial])), (ah_court, .inr (0, [.ref ah_court_settings, .ref ah_court_eyes, .ref ah_court_favours, .ref ah_court_numbers, .ref ah_court_pauses, .int vh_court_bows, .int vh_court_given, .int vh_court_taken])), (ah_court_favours, .inl (g.2.1, 36, .inl vh_court_favours))] (s_X4_favourIndex l g   x1 x3 _ hc_5) rfl co_X4_favourIndex ini_X4 ml_X4_114 st_X4_favourIndex ar_X4_favourIndex ⟨Nat.le_of_ble_eq_true rfl, Nat.le_of_ble_eq_true rfl⟩ ⟨Nat.le_of_ble_eq_true rfl, Nat.le_of_ble_eq_true rfl⟩ (bw_pick1 3 [0, 1, 2] rfl rfl (by decide)) (Nat.le_of_ble_eq_true rfl) dX4_favoursOfCourtier_20 (fun r w1 hq => ?_)
      obtain ⟨rfl, rfl⟩ := hq
      refine bw_perm (ws1 := [(ah, .inr (4, [.ref ah_court, .ref ah_pad, .ref ah_history, .ref ah_slots, .ref ah_seen, .ref ah_plain, .ref ah_trial])), (ah_court, .inr (0, [.ref ah_court_settings, .ref ah_court_eyes, .ref ah_court_favours, .ref ah_court_numbers, .ref ah_court_pauses, .int vh_court_bows, .int vh_court_given, .int vh_court_taken])), (ah_court_favours, .inl (g.2.1, 36, .inl vh_court_favours))]) (bw_pick1 3 [0, 1, 2] rfl rfl (by decide)) ?_
      refine bw_st (st1 := [.int q_5, .ref ah_court_favours, .int x2]) rfl ?_
      obtain ⟨q_6, hc_6, hf⟩ := bw_bind hf
      refine bw_callS [.ref ah_court_favours, .int q_5] [.int x2] [(ah, .inr (4, [.ref ah_court, .ref ah_pad, .ref ah_history, .ref ah_slots, .ref ah_seen, .ref ah_plain, .ref ah_trial])), (ah_court, .inr (0, [.ref ah_court_settings, .ref ah_court_eyes, .ref ah_court_favours, .ref ah_court_numbers, .ref ah_court_pauses, .int vh_court_bows, .int vh_court_given, .int vh_court_taken]))] (s_X4_at l g ah_court_favours 36 vh_court_favours q_5 _ hc_6) rfl co_X4_at ini_X4 ml_X4_145 st_X4_at ar_X4_at ⟨Nat.le_of_ble_eq_true rfl, Nat.le_of_ble_eq_true rfl⟩ ⟨Nat.le_of_ble_eq_true rfl, Nat.le_of_ble_eq_true rfl⟩ (bw_pick1 3 [2, 0, 1] rfl rfl (by decide)) (Nat.le_of_ble_eq_true rfl) dX4_favoursOfCourtier_23 (fun r w1 hq => ?_)
      obtain ⟨rfl, rfl⟩ := hq
      refine bw_perm (ws1 := [(ah, .inr (4, [.ref ah_court, .ref ah_pad, .ref ah_history, .ref ah_slots, .ref ah_seen, .ref ah_plain, .ref ah_trial])), (ah_court, .inr (0, [.ref ah_court_settings, .ref ah_court_eyes, .ref ah_court_favours, .ref ah_court_numbers, .ref ah_court_pauses, .int vh_court_bows, .int vh_court_given, .int vh_court_taken])), (ah_court_favours, .inl (g.2.1, 36, .inl vh_court_favours))]) (bw_pick1 3 [0, 1, 2] rfl rfl (by decide)) ?_
      refine bw_st (st1 := [.int q_6, .int x2]) rfl ?_
      refine bw_iadd dX4_favoursOfCourtier_26 ?_
      refine bw_istore_n [(2, .int ((x2 + q_6))), (0, .ref ah), (1, .int x1), (3, .int x3)] dX4_favoursOfCourtier_27 rfl (by decide) rfl ?_
      refine bw_iinc 3 (x3 + 1) [(3, .int ((x3 + 1))), (2, .int ((x2 + q_6))), (0, .ref ah), (1, .int x1)] dX4_favoursOfCourtier_28 rfl rfl (by decide) rfl ?_
      refine bw_goto 4 dX4_favoursOfCourtier_31 (by decide) ?_
      refine bw_lv [2, 3, 1, 0] rfl ?_
      exact ih vh_court_bows vh_court_given vh_court_taken vh_court_favours x1 ((x2 + q_6)) ((x3 + 1)) _ hf
theorem ar_X4_favoursOfCourtier : yX4_favoursOfCourtier.cls ≠ "java/lang/invoke/MethodHandle" ∧ yX4_favoursOfCourtier.cls ≠ "java/lang/invoke/VarHandle" ∧ (parseMethodDescriptor yX4_favoursOfCourtier.desc).map (fun d => d.parameters.length) = some 1 := ⟨by decide, by decide, by decide +kernel⟩
def f_X4_favoursOfCourtier (vh_court_favours : Nat → Int32) (p0 : Int32) : Option (Int32) := (f_X4_favoursOfCourtier_L4 bw_F vh_court_favours p0 0 0)
set_option maxHeartbeats 4000000 in
set_option maxRecDepth 100000 in
theorem s_X4_favoursOfCourtier (l : Launch) (g : bwG) (ah ah_court ah_pad ah_history ah_slots ah_seen ah_plain ah_trial ah_court_settings ah_court_eyes ah_court_favours ah_court_numbers ah_court_pauses : Nat) (vh_court_bows : Int32) (vh_court_given : Int32) (vh_court_taken : Int32) (vh_court_favours : Nat → Int32) (p0 : Int32) (res : Int32) (hf : f_X4_favoursOfCourtier vh_court_favours p0 = some res) : bwS l g yX4_favoursOfCourtier cX4_favoursOfCourtier 4 (some .int) ({ frames := 1, cells := 0, slots := 0, locals := 21 } : Room) [.ref ah, .int p0] ([(ah, .inr (4, [.ref ah_court, .ref ah_pad, .ref ah_history, .ref ah_slots, .ref ah_seen, .ref ah_plain, .ref ah_trial])), (ah_court, .inr (0, [.ref ah_court_settings, .ref ah_court_eyes, .ref ah_court_favours, .ref ah_court_numbers, .ref ah_court_pauses, .int vh_court_bows, .int vh_court_given, .int vh_court_taken])), (ah_court_favours, .inl (g.2.1, 36, .inl vh_court_favours))]) (fun r w => r = some (.int res) ∧ w = [(ah, .inr (4, [.ref ah_court, .ref ah_pad, .ref ah_history, .ref ah_slots, .ref ah_seen, .ref ah_plain, .ref ah_trial])), (ah_court, .inr (0, [.ref ah_court_settings, .ref ah_court_eyes, .ref ah_court_favours, .ref ah_court_numbers, .ref ah_court_pauses, .int vh_court_bows, .int vh_court_given, .int vh_court_taken])), (ah_court_favours, .inl (g.2.1, 36, .inl vh_court_favours))]) := by
  refine bwS_of (by decide) (Nat.le_of_ble_eq_true rfl) ?_
  unfold f_X4_favoursOfCourtier at hf
  show bwR l g cX4_favoursOfCourtier 4 RX4 "favoursOfCourtier" (some .int) ({ frames := 1, cells := 0, slots := 0, locals := 21 } : Room) bwT (bwZ g (fun r w => r = some (.int res) ∧ w = [(ah, .inr (4, [.ref ah_court, .ref ah_pad, .ref ah_history, .ref ah_slots, .ref ah_seen, .ref ah_plain, .ref ah_trial])), (ah_court, .inr (0, [.ref ah_court_settings, .ref ah_court_eyes, .ref ah_court_favours, .ref ah_court_numbers, .ref ah_court_pauses, .int vh_court_bows, .int vh_court_given, .int vh_court_taken])), (ah_court_favours, .inl (g.2.1, 36, .inl vh_court_favours))]) 0 0) 0 [(0, .ref ah), (1, .int p0)] [] ([(ah, .inr (4, [.ref ah_court, .ref ah_pad, .ref ah_history, .ref ah_slots, .ref ah_seen, .ref ah_plain, .ref ah_trial])), (ah_court, .inr (0, [.ref ah_court_settings, .ref ah_court_eyes, .ref ah_court_favours, .ref ah_court_numbers, .ref ah_court_pauses, .int vh_court_bows, .int vh_court_given, .int vh_court_taken])), (ah_court_favours, .inl (g.2.1, 36, .inl vh_court_favours))]) 0 0
  refine bw_iconst 0 dX4_favoursOfCourtier_0 (by decide) ?_
  refine bw_istore_n [(2, .int 0), (0, .ref ah), (1, .int p0)] dX4_favoursOfCourtier_1 rfl (by decide) rfl ?_
  refine bw_iconst 0 dX4_favoursOfCourtier_2 (by decide) ?_
  refine bw_istore_n [(3, .int 0), (2, .int 0), (0, .ref ah), (1, .int p0)] dX4_favoursOfCourtier_3 rfl (by decide) rfl ?_
  refine bw_lv [2, 3, 1, 0] rfl ?_
  exact s_X4_favoursOfCourtier_L4 l g ah ah_court ah_pad ah_history ah_slots ah_seen ah_plain ah_trial ah_court_settings ah_court_eyes ah_court_favours ah_court_numbers ah_court_pauses bw_F vh_court_bows vh_court_given vh_court_taken vh_court_favours p0 0 0 _ hf
def f_X4_sumOfAllFavours_L4 : Nat → (Nat → Int32) → (Int32) → (Int32) → Option (Int32)
  | 0, _, _, _ => none
  | fu + 1, vh_court_favours, x1, x2 => (if 6 ≤ x2 then some x1 else ((f_X4_favoursOfCourtier vh_court_favours x2).bind fun q_4 => (f_X4_sumOfAllFavours_L4 fu vh_court_favours ((x1 + q_4)) ((x2 + 1)))))
set_option maxHeartbeats 4000000 in
set_option maxRecDepth 100000 in
theorem s_X4_sumOfAllFavours_L4 (l : Launch) (g : bwG) (ah ah_court ah_pad ah_history ah_slots ah_seen ah_plain ah_trial ah_court_settings ah_court_eyes ah_court_favours ah_court_numbers ah_court_pauses : Nat) (fu : Nat) : ∀ (vh_court_bows : Int32) (vh_court_given : Int32) (vh_court_taken : Int32) (vh_court_favours : Nat → Int32) (x1 : Int32) (x2 : Int32) (res : Int32), f_X4_sumOfAllFavours_L4 fu vh_court_favours x1 x2 = some res → bwR l g cX4_sumOfAllFavours 3 RX4 "sumOfAllFavours" (some .int) ({ frames := 2, cells := 0, slots := 0, locals := 44 } : Room) bwT (bwZ g (fun r w => r = some (.int res) ∧ w = [(ah, .inr (4, [.ref ah_court, .ref ah_pad, .ref ah_history, .ref ah_slots, .ref ah_seen, .ref ah_plain, .ref ah_trial])), (ah_court, .inr (0, [.ref ah_court_settings, .ref ah_court_eyes, .ref ah_court_favours, .ref ah_court_numbers, .ref ah_court_pauses, .int vh_court_bows, .int vh_court_given, .int vh_court_taken])), (ah_court_favours, .inl (g.2.1, 36, .inl vh_court_favours))]) 0 0) 4 [(0, .ref ah), (1, .int x1), (2, .int x2)] [] ([(ah, .inr (4, [.ref ah_court, .ref ah_pad, .ref ah_history, .ref ah_slots, .ref ah_seen, .ref ah_plain, .ref ah_trial])), (ah_court, .inr (0, [.ref ah_court_settings, .ref ah_court_eyes, .ref ah_court_favours, .ref ah_court_numbers, .ref ah_court_pauses, .int vh_court_bows, .int vh_court_given, .int vh_court_taken])), (ah_court_favours, .inl (g.2.1, 36, .inl vh_court_favours))]) 0 0 := by
  induction fu with
  | zero => intro vh_court_bows vh_court_given vh_court_taken vh_court_favours x1 x2 res hf; exact absurd hf (by intro h; cases h)
  | succ fu ih =>
    intro vh_court_bows vh_court_given vh_court_taken vh_court_favours x1 x2 res hf
    rw [f_X4_sumOfAllFavours_L4] at hf
    refine bw_iload_n 2 dX4_sumOfAllFavours_4 rfl rfl ?_
    refine bw_bipush 6 dX4_sumOfAllFavours_5 (by decide) ?_
    refine bw_icmp_ge 24 dX4_sumOfAllFavours_7 (by decide) (fun c_3 => ?_) (fun c_3 => ?_)
    · have hf := bw_pos c_3 hf
      refine bw_iload_n 1 dX4_sumOfAllFavours_24 rfl rfl ?_
      cases Option.some.inj hf
      exact bw_ret rfl rfl (Nat.le_of_ble_eq_true rfl) (Nat.le_of_ble_eq_true rfl) dX4_sumOfAllFavours_25 ⟨rfl, rfl⟩
    · have hf := bw_neg c_3 hf
      refine bw_iload_n 1 dX4_sumOfAllFavours_10 rfl rfl ?_
      refine bw_aload_n 0 dX4_sumOfAllFavours_11 rfl rfl ?_
      refine bw_iload_n 2 dX4_sumOfAllFavours_12 rfl rfl ?_
      obtain ⟨q_4, hc_4, hf⟩ := bw_bind hf
      refine bw_callV [.int x2] [.int x1] [] 0 4 (s_X4_favoursOfCourtier l g ah ah_court ah_pad ah_history ah_slots ah_seen ah_plain ah_trial ah_court_settings ah_court_eyes ah_court_favours ah_court_numbers ah_court_pauses vh_court_bows vh_court_given vh_court_taken vh_court_favours x2 _ hc_4) rfl co_X4_favoursOfCourtier ini_X4 ml_X4_167 im_X4_favoursOfCourtier se_X4_favoursOfCourtier ar_X4_favoursOfCourtier ⟨Nat.le_of_ble_eq_true rfl, Nat.le_of_ble_eq_true rfl⟩ ⟨Nat.le_of_ble_eq_true rfl, Nat.le_of_ble_eq_true rfl⟩ rfl rfl (bw_pick1 3 [0, 1, 2] rfl rfl (by decide)) (Nat.le_of_ble_eq_true rfl) dX4_sumOfAllFavours_13 (fun r w1 hq => ?_)
      obtain ⟨rfl, rfl⟩ := hq
      refine bw_perm (ws1 := [(ah, .inr (4, [.ref ah_court, .ref ah_pad, .ref ah_history, .ref ah_slots, .ref ah_seen, .ref ah_plain, .ref ah_trial])), (ah_court, .inr (0, [.ref ah_court_settings, .ref ah_court_eyes, .ref ah_court_favours, .ref ah_court_numbers, .ref ah_court_pauses, .int vh_court_bows, .int vh_court_given, .int vh_court_taken])), (ah_court_favours, .inl (g.2.1, 36, .inl vh_court_favours))]) (bw_pick1 3 [0, 1, 2] rfl rfl (by decide)) ?_
      refine bw_st (st1 := [.int q_4, .int x1]) rfl ?_
      refine bw_iadd dX4_sumOfAllFavours_16 ?_
      refine bw_istore_n [(1, .int ((x1 + q_4))), (0, .ref ah), (2, .int x2)] dX4_sumOfAllFavours_17 rfl (by decide) rfl ?_
      refine bw_iinc 2 (x2 + 1) [(2, .int ((x2 + 1))), (1, .int ((x1 + q_4))), (0, .ref ah)] dX4_sumOfAllFavours_18 rfl rfl (by decide) rfl ?_
      refine bw_goto 4 dX4_sumOfAllFavours_21 (by decide) ?_
      refine bw_lv [2, 1, 0] rfl ?_
      exact ih vh_court_bows vh_court_given vh_court_taken vh_court_favours ((x1 + q_4)) ((x2 + 1)) _ hf
theorem ar_X4_sumOfAllFavours : yX4_sumOfAllFavours.cls ≠ "java/lang/invoke/MethodHandle" ∧ yX4_sumOfAllFavours.cls ≠ "java/lang/invoke/VarHandle" ∧ (parseMethodDescriptor yX4_sumOfAllFavours.desc).map (fun d => d.parameters.length) = some 0 := ⟨by decide, by decide, by decide +kernel⟩
def f_X4_sumOfAllFavours (vh_court_favours : Nat → Int32)  : Option (Int32) := (f_X4_sumOfAllFavours_L4 bw_F vh_court_favours 0 0)
set_option maxHeartbeats 4000000 in
set_option maxRecDepth 100000 in
theorem s_X4_sumOfAllFavours (l : Launch) (g : bwG) (ah ah_court ah_pad ah_history ah_slots ah_seen ah_plain ah_trial ah_court_settings ah_court_eyes ah_court_favours ah_court_numbers ah_court_pauses : Nat) (vh_court_bows : Int32) (vh_court_given : Int32) (vh_court_taken : Int32) (vh_court_favours : Nat → Int32)  (res : Int32) (hf : f_X4_sumOfAllFavours vh_court_favours  = some res) : bwS l g yX4_sumOfAllFavours cX4_sumOfAllFavours 3 (some .int) ({ frames := 2, cells := 0, slots := 0, locals := 44 } : Room) [.ref ah] ([(ah, .inr (4, [.ref ah_court, .ref ah_pad, .ref ah_history, .ref ah_slots, .ref ah_seen, .ref ah_plain, .ref ah_trial])), (ah_court, .inr (0, [.ref ah_court_settings, .ref ah_court_eyes, .ref ah_court_favours, .ref ah_court_numbers, .ref ah_court_pauses, .int vh_court_bows, .int vh_court_given, .int vh_court_taken])), (ah_court_favours, .inl (g.2.1, 36, .inl vh_court_favours))]) (fun r w => r = some (.int res) ∧ w = [(ah, .inr (4, [.ref ah_court, .ref ah_pad, .ref ah_history, .ref ah_slots, .ref ah_seen, .ref ah_plain, .ref ah_trial])), (ah_court, .inr (0, [.ref ah_court_settings, .ref ah_court_eyes, .ref ah_court_favours, .ref ah_court_numbers, .ref ah_court_pauses, .int vh_court_bows, .int vh_court_given, .int vh_court_taken])), (ah_court_favours, .inl (g.2.1, 36, .inl vh_court_favours))]) := by
  refine bwS_of (by decide) (Nat.le_of_ble_eq_true rfl) ?_
  unfold f_X4_sumOfAllFavours at hf
  show bwR l g cX4_sumOfAllFavours 3 RX4 "sumOfAllFavours" (some .int) ({ frames := 2, cells := 0, slots := 0, locals := 44 } : Room) bwT (bwZ g (fun r w => r = some (.int res) ∧ w = [(ah, .inr (4, [.ref ah_court, .ref ah_pad, .ref ah_history, .ref ah_slots, .ref ah_seen, .ref ah_plain, .ref ah_trial])), (ah_court, .inr (0, [.ref ah_court_settings, .ref ah_court_eyes, .ref ah_court_favours, .ref ah_court_numbers, .ref ah_court_pauses, .int vh_court_bows, .int vh_court_given, .int vh_court_taken])), (ah_court_favours, .inl (g.2.1, 36, .inl vh_court_favours))]) 0 0) 0 [(0, .ref ah)] [] ([(ah, .inr (4, [.ref ah_court, .ref ah_pad, .ref ah_history, .ref ah_slots, .ref ah_seen, .ref ah_plain, .ref ah_trial])), (ah_court, .inr (0, [.ref ah_court_settings, .ref ah_court_eyes, .ref ah_court_favours, .ref ah_court_numbers, .ref ah_court_pauses, .int vh_court_bows, .int vh_court_given, .int vh_court_taken])), (ah_court_favours, .inl (g.2.1, 36, .inl vh_court_favours))]) 0 0
  refine bw_iconst 0 dX4_sumOfAllFavours_0 (by decide) ?_
  refine bw_istore_n [(1, .int 0), (0, .ref ah)] dX4_sumOfAllFavours_1 rfl (by decide) rfl ?_
  refine bw_iconst 0 dX4_sumOfAllFavours_2 (by decide) ?_
  refine bw_istore_n [(2, .int 0), (1, .int 0), (0, .ref ah)] dX4_sumOfAllFavours_3 rfl (by decide) rfl ?_
  refine bw_lv [2, 1, 0] rfl ?_
  exact s_X4_sumOfAllFavours_L4 l g ah ah_court ah_pad ah_history ah_slots ah_seen ah_plain ah_trial ah_court_settings ah_court_eyes ah_court_favours ah_court_numbers ah_court_pauses bw_F vh_court_bows vh_court_given vh_court_taken vh_court_favours 0 0 _ hf
theorem ar_X4_count : yX4_count.cls ≠ "java/lang/invoke/MethodHandle" ∧ yX4_count.cls ≠ "java/lang/invoke/VarHandle" ∧ (parseMethodDescriptor yX4_count.desc).map (fun d => d.parameters.length) = some 1 := ⟨by decide, by decide, by decide +kernel⟩
def f_X4_count (vh_court_bows : Int32) (vh_court_given : Int32) (vh_court_taken : Int32) (vh_court_settings : Nat → Int32) (vh_court_eyes : Nat → Int32) (vh_court_favours : Nat → Int32) (vh_court_numbers : Nat → Int32) (vh_court_pauses : Nat → Int32) (vh_pad_length : Int32) (vh_history_size : Int32) (vh_seen_groups : Int32) (vh_seen_kept : Int32) (vh_seen_flourishes : Int32) (vh_seen_longGroups : Int32) (vh_seen_reason : Int32) (vh_seen_sentences : Int32) (vh_seen_words : Nat → Int32) (vh_seen_left : Nat → Int32) (vh_plain_groups : Int32) (vh_plain_kept : Int32) (vh_plain_flourishes : Int32) (vh_plain_longGroups : Int32) (vh_plain_reason : Int32) (vh_plain_sentences : Int32) (vh_plain_words : Nat → Int32) (vh_plain_left : Nat → Int32) (p0 : Int32) : Option (Int32 × (Int32) × (Int32) × (Int32) × (Int32) × (Int32) × (Int32) × (Nat → Int32) × (Nat → Int32) × (Int32) × (Int32) × (Int32) × (Int32) × (Int32) × (Int32) × (Nat → Int32) × (Nat → Int32)) := (if p0 = 0 then (if bw_in p0 3 then some ((vh_court_settings (Int32.toNatClampNeg p0)), vh_seen_groups, vh_seen_kept, vh_seen_flourishes, vh_seen_longGroups, vh_seen_reason, vh_seen_sentences, vh_seen_words, vh_seen_left, vh_plain_groups, vh_plain_kept, vh_plain_flourishes, vh_plain_longGroups, vh_plain_reason, vh_plain_sentences, vh_plain_words, vh_plain_left) else none) else (if p0 = 1 then (if bw_in p0 3 then some ((vh_court_settings (Int32.toNatClampNeg p0)), vh_seen_groups, vh_seen_kept, vh_seen_flourishes, vh_seen_longGroups, vh_seen_reason, vh_seen_sentences, vh_seen_words, vh_seen_left, vh_plain_groups, vh_plain_kept, vh_plain_flourishes, vh_plain_longGroups, vh_plain_reason, vh_plain_sentences, vh_plain_words, vh_plain_left) else none) else (if p0 = 2 then (if bw_in p0 3 then some ((vh_court_settings (Int32.toNatClampNeg p0)), vh_seen_groups, vh_seen_kept, vh_seen_flourishes, vh_seen_longGroups, vh_seen_reason, vh_seen_sentences, vh_seen_words, vh_seen_left, vh_plain_groups, vh_plain_kept, vh_plain_flourishes, vh_plain_longGroups, vh_plain_reason, vh_plain_sentences, vh_plain_words, vh_plain_left) else none) else (if p0 = 3 then some (vh_court_bows, vh_seen_groups, vh_seen_kept, vh_seen_flourishes, vh_seen_longGroups, vh_seen_reason, vh_seen_sentences, vh_seen_words, vh_seen_left, vh_plain_groups, vh_plain_kept, vh_plain_flourishes, vh_plain_longGroups, vh_plain_reason, vh_plain_sentences, vh_plain_words, vh_plain_left) else (if p0 = 4 then some (vh_court_given, vh_seen_groups, vh_seen_kept, vh_seen_flourishes, vh_seen_longGroups, vh_seen_reason, vh_seen_sentences, vh_seen_words, vh_seen_left, vh_plain_groups, vh_plain_kept, vh_plain_flourishes, vh_plain_longGroups, vh_plain_reason, vh_plain_sentences, vh_plain_words, vh_plain_left) else (if p0 = 5 then some (vh_court_taken, vh_seen_groups, vh_seen_kept, vh_seen_flourishes, vh_seen_longGroups, vh_seen_reason, vh_seen_sentences, vh_seen_words, vh_seen_left, vh_plain_groups, vh_plain_kept, vh_plain_flourishes, vh_plain_longGroups, vh_plain_reason, vh_plain_sentences, vh_plain_words, vh_plain_left) else (if p0 = 6 then ((f_X4_courtiersMisled vh_court_bows vh_court_settings vh_court_eyes vh_court_numbers vh_court_pauses vh_seen_groups vh_seen_kept vh_seen_flourishes vh_seen_longGroups vh_seen_reason vh_seen_sentences vh_seen_words vh_seen_left vh_plain_groups vh_plain_kept vh_plain_flourishes vh_plain_longGroups vh_plain_reason vh_plain_sentences vh_plain_words vh_plain_left).bind fun q_26 => some (q_26.1, q_26.2.1, q_26.2.2.1, q_26.2.2.2.1, q_26.2.2.2.2.1, q_26.2.2.2.2.2.1, q_26.2.2.2.2.2.2.1, q_26.2.2.2.2.2.2.2.1, q_26.2.2.2.2.2.2.2.2.1, q_26.2.2.2.2.2.2.2.2.2.1, q_26.2.2.2.2.2.2.2.2.2.2.1, q_26.2.2.2.2.2.2.2.2.2.2.2.1, q_26.2.2.2.2.2.2.2.2.2.2.2.2.1, q_26.2.2.2.2.2.2.2.2.2.2.2.2.2.1, q_26.2.2.2.2.2.2.2.2.2.2.2.2.2.2.1, q_26.2.2.2.2.2.2.2.2.2.2.2.2.2.2.2.1, q_26.2.2.2.2.2.2.2.2.2.2.2.2.2.2.2.2)) else (if p0 = 7 then ((f_X4_sumOfAllFavours vh_court_favours).bind fun q_28 => some (q_28, vh_seen_groups, vh_seen_kept, vh_seen_flourishes, vh_seen_longGroups, vh_seen_reason, vh_seen_sentences, vh_seen_words, vh_seen_left, vh_plain_groups, vh_plain_kept, vh_plain_flourishes, vh_plain_longGroups, vh_plain_reason, vh_plain_sentences, vh_plain_words, vh_plain_left)) else (if p0 = 8 then some (vh_pad_length, vh_seen_groups, vh_seen_kept, vh_seen_flourishes, vh_seen_longGroups, vh_seen_reason, vh_seen_sentences, vh_seen_words, vh_seen_left, vh_plain_groups, vh_plain_kept, vh_plain_flourishes, vh_plain_longGroups, vh_plain_reason, vh_plain_sentences, vh_plain_words, vh_plain_left) else (if p0 = 9 then some (vh_history_size, vh_seen_groups, vh_seen_kept, vh_seen_flourishes, vh_seen_longGroups, vh_seen_reason, vh_seen_sentences, vh_seen_words, vh_seen_left, vh_plain_groups, vh_plain_kept, vh_plain_flourishes, vh_plain_longGroups, vh_plain_reason, vh_plain_sentences, vh_plain_words, vh_plain_left) else some ((-1000002), vh_seen_groups, vh_seen_kept, vh_seen_flourishes, vh_seen_longGroups, vh_seen_reason, vh_seen_sentences, vh_seen_words, vh_seen_left, vh_plain_groups, vh_plain_kept, vh_plain_flourishes, vh_plain_longGroups, vh_plain_reason, vh_plain_sentences, vh_plain_words, vh_plain_left)))))))))))
set_option maxHeartbeats 4000000 in
set_option maxRecDepth 100000 in
theorem s_X4_count (l : Launch) (g : bwG) (ah ah_court ah_pad ah_history ah_slots ah_seen ah_plain ah_trial ah_court_settings ah_court_eyes ah_court_favours ah_court_numbers ah_court_pauses ah_pad_characters ah_history_states ah_seen_words ah_seen_left ah_plain_words ah_plain_left : Nat) (vh_court_bows : Int32) (vh_court_given : Int32) (vh_court_taken : Int32) (vh_court_settings : Nat → Int32) (vh_court_eyes : Nat → Int32) (vh_court_favours : Nat → Int32) (vh_court_numbers : Nat → Int32) (vh_court_pauses : Nat → Int32) (vh_pad_length : Int32) (vh_history_next : Int32) (vh_history_size : Int32) (vh_seen_groups : Int32) (vh_seen_kept : Int32) (vh_seen_flourishes : Int32) (vh_seen_longGroups : Int32) (vh_seen_reason : Int32) (vh_seen_sentences : Int32) (vh_seen_words : Nat → Int32) (vh_seen_left : Nat → Int32) (vh_plain_groups : Int32) (vh_plain_kept : Int32) (vh_plain_flourishes : Int32) (vh_plain_longGroups : Int32) (vh_plain_reason : Int32) (vh_plain_sentences : Int32) (vh_plain_words : Nat → Int32) (vh_plain_left : Nat → Int32) (p0 : Int32) (res : Int32 × (Int32) × (Int32) × (Int32) × (Int32) × (Int32) × (Int32) × (Nat → Int32) × (Nat → Int32) × (Int32) × (Int32) × (Int32) × (Int32) × (Int32) × (Int32) × (Nat → Int32) × (Nat → Int32)) (hf : f_X4_count vh_court_bows vh_court_given vh_court_taken vh_court_settings vh_court_eyes vh_court_favours vh_court_numbers vh_court_pauses vh_pad_length vh_history_size vh_seen_groups vh_seen_kept vh_seen_flourishes vh_seen_longGroups vh_seen_reason vh_seen_sentences vh_seen_words vh_seen_left vh_plain_groups vh_plain_kept vh_plain_flourishes vh_plain_longGroups vh_plain_reason vh_plain_sentences vh_plain_words vh_plain_left p0 = some res) : bwS l g yX4_count cX4_count 2 (some .int) ({ frames := 6, cells := 0, slots := 0, locals := 134 } : Room) [.ref ah, .int p0] ([(ah, .inr (4, [.ref ah_court, .ref ah_pad, .ref ah_history, .ref ah_slots, .ref ah_seen, .ref ah_plain, .ref ah_trial])), (ah_court, .inr (0, [.ref ah_court_settings, .ref ah_court_eyes, .ref ah_court_favours, .ref ah_court_numbers, .ref ah_court_pauses, .int vh_court_bows, .int vh_court_given, .int vh_court_taken])), (ah_court_settings, .inl (g.2.1, 3, .inl vh_court_settings)), (ah_court_eyes, .inl (g.2.1, 6, .inl vh_court_eyes)), (ah_court_favours, .inl (g.2.1, 36, .inl vh_court_favours)), (ah_court_numbers, .inl (g.2.1, 24, .inl vh_court_numbers)), (ah_court_pauses, .inl (g.2.1, 24, .inl vh_court_pauses)), (ah_pad, .inr (2, [.ref ah_pad_characters, .int vh_pad_length])), (ah_history, .inr (1, [.ref ah_history_states, .int vh_history_next, .int vh_history_size])), (ah_seen, .inr (3, [.ref ah_seen_words, .int vh_seen_groups, .ref ah_seen_left, .int vh_seen_kept, .int vh_seen_flourishes, .int vh_seen_longGroups, .int vh_seen_reason, .int vh_seen_sentences])), (ah_seen_words, .inl (g.2.1, 24, .inl vh_seen_words)), (ah_seen_left, .inl (g.2.1, 24, .inl vh_seen_left)), (ah_plain, .inr (3, [.ref ah_plain_words, .int vh_plain_groups, .ref ah_plain_left, .int vh_plain_kept, .int vh_plain_flourishes, .int vh_plain_longGroups, .int vh_plain_reason, .int vh_plain_sentences])), (ah_plain_words, .inl (g.2.1, 24, .inl vh_plain_words)), (ah_plain_left, .inl (g.2.1, 24, .inl vh_plain_left))]) (fun r w => r = some (.int res.1) ∧ w = [(ah, .inr (4, [.ref ah_court, .ref ah_pad, .ref ah_history, .ref ah_slots, .ref ah_seen, .ref ah_plain, .ref ah_trial])), (ah_court, .inr (0, [.ref ah_court_settings, .ref ah_court_eyes, .ref ah_court_favours, .ref ah_court_numbers, .ref ah_court_pauses, .int vh_court_bows, .int vh_court_given, .int vh_court_taken])), (ah_court_settings, .inl (g.2.1, 3, .inl vh_court_settings)), (ah_court_eyes, .inl (g.2.1, 6, .inl vh_court_eyes)), (ah_court_favours, .inl (g.2.1, 36, .inl vh_court_favours)), (ah_court_numbers, .inl (g.2.1, 24, .inl vh_court_numbers)), (ah_court_pauses, .inl (g.2.1, 24, .inl vh_court_pauses)), (ah_pad, .inr (2, [.ref ah_pad_characters, .int vh_pad_length])), (ah_history, .inr (1, [.ref ah_history_states, .int vh_history_next, .int vh_history_size])), (ah_seen, .inr (3, [.ref ah_seen_words, .int res.2.1, .ref ah_seen_left, .int res.2.2.1, .int res.2.2.2.1, .int res.2.2.2.2.1, .int res.2.2.2.2.2.1, .int res.2.2.2.2.2.2.1])), (ah_seen_words, .inl (g.2.1, 24, .inl res.2.2.2.2.2.2.2.1)), (ah_seen_left, .inl (g.2.1, 24, .inl res.2.2.2.2.2.2.2.2.1)), (ah_plain, .inr (3, [.ref ah_plain_words, .int res.2.2.2.2.2.2.2.2.2.1, .ref ah_plain_left, .int res.2.2.2.2.2.2.2.2.2.2.1, .int res.2.2.2.2.2.2.2.2.2.2.2.1, .int res.2.2.2.2.2.2.2.2.2.2.2.2.1, .int res.2.2.2.2.2.2.2.2.2.2.2.2.2.1, .int res.2.2.2.2.2.2.2.2.2.2.2.2.2.2.1])), (ah_plain_words, .inl (g.2.1, 24, .inl res.2.2.2.2.2.2.2.2.2.2.2.2.2.2.2.1)), (ah_plain_left, .inl (g.2.1, 24, .inl res.2.2.2.2.2.2.2.2.2.2.2.2.2.2.2.2))]) := by
  refine bwS_of (by decide) (Nat.le_of_ble_eq_true rfl) ?_
  unfold f_X4_count at hf
  show bwR l g cX4_count 2 RX4 "count" (some .int) ({ frames := 6, cells := 0, slots := 0, locals := 134 } : Room) bwT (bwZ g (fun r w => r = some (.int res.1) ∧ w = [(ah, .inr (4, [.ref ah_court, .ref ah_pad, .ref ah_history, .ref ah_slots, .ref ah_seen, .ref ah_plain, .ref ah_trial])), (ah_court, .inr (0, [.ref ah_court_settings, .ref ah_court_eyes, .ref ah_court_favours, .ref ah_court_numbers, .ref ah_court_pauses, .int vh_court_bows, .int vh_court_given, .int vh_court_taken])), (ah_court_settings, .inl (g.2.1, 3, .inl vh_court_settings)), (ah_court_eyes, .inl (g.2.1, 6, .inl vh_court_eyes)), (ah_court_favours, .inl (g.2.1, 36, .inl vh_court_favours)), (ah_court_numbers, .inl (g.2.1, 24, .inl vh_court_numbers)), (ah_court_pauses, .inl (g.2.1, 24, .inl vh_court_pauses)), (ah_pad, .inr (2, [.ref ah_pad_characters, .int vh_pad_length])), (ah_history, .inr (1, [.ref ah_history_states, .int vh_history_next, .int vh_history_size])), (ah_seen, .inr (3, [.ref ah_seen_words, .int res.2.1, .ref ah_seen_left, .int res.2.2.1, .int res.2.2.2.1, .int res.2.2.2.2.1, .int res.2.2.2.2.2.1, .int res.2.2.2.2.2.2.1])), (ah_seen_words, .inl (g.2.1, 24, .inl res.2.2.2.2.2.2.2.1)), (ah_seen_left, .inl (g.2.1, 24, .inl res.2.2.2.2.2.2.2.2.1)), (ah_plain, .inr (3, [.ref ah_plain_words, .int res.2.2.2.2.2.2.2.2.2.1, .ref ah_plain_left, .int res.2.2.2.2.2.2.2.2.2.2.1, .int res.2.2.2.2.2.2.2.2.2.2.2.1, .int res.2.2.2.2.2.2.2.2.2.2.2.2.1, .int res.2.2.2.2.2.2.2.2.2.2.2.2.2.1, .int res.2.2.2.2.2.2.2.2.2.2.2.2.2.2.1])), (ah_plain_words, .inl (g.2.1, 24, .inl res.2.2.2.2.2.2.2.2.2.2.2.2.2.2.2.1)), (ah_plain_left, .inl (g.2.1, 24, .inl res.2.2.2.2.2.2.2.2.2.2.2.2.2.2.2.2))]) 0 0) 0 [(0, .ref ah), (1, .int p0)] [] ([(ah, .inr (4, [.ref ah_court, .ref ah_pad, .ref ah_history, .ref ah_slots, .ref ah_seen, .ref ah_plain, .ref ah_trial])), (ah_court, .inr (0, [.ref ah_court_settings, .ref ah_court_eyes, .ref ah_court_favours, .ref ah_court_numbers, .ref ah_court_pauses, .int vh_court_bows, .int vh_court_given, .int vh_court_taken])), (ah_court_settings, .inl (g.2.1, 3, .inl vh_court_settings)), (ah_court_eyes, .inl (g.2.1, 6, .inl vh_court_eyes)), (ah_court_favours, .inl (g.2.1, 36, .inl vh_court_favours)), (ah_court_numbers, .inl (g.2.1, 24, .inl vh_court_numbers)), (ah_court_pauses, .inl (g.2.1, 24, .inl vh_court_pauses)), (ah_pad, .inr (2, [.ref ah_pad_characters, .int vh_pad_length])), (ah_history, .inr (1, [.ref ah_history_states, .int vh_history_next, .int vh_history_size])), (ah_seen, .inr (3, [.ref ah_seen_words, .int vh_seen_groups, .ref ah_seen_left, .int vh_seen_kept, .int vh_seen_flourishes, .int vh_seen_longGroups, .int vh_seen_reason, .int vh_seen_sentences])), (ah_seen_words, .inl (g.2.1, 24, .inl vh_seen_words)), (ah_seen_left, .inl (g.2.1, 24, .inl vh_seen_left)), (ah_plain, .inr (3, [.ref ah_plain_words, .int vh_plain_groups, .ref ah_plain_left, .int vh_plain_kept, .int vh_plain_flourishes, .int vh_plain_longGroups, .int vh_plain_reason, .int vh_plain_sentences])), (ah_plain_words, .inl (g.2.1, 24, .inl vh_plain_words)), (ah_plain_left, .inl (g.2.1, 24, .inl vh_plain_left))]) 0 0
  refine bw_iload_n 1 dX4_count_0 rfl rfl ?_
  rcases Decidable.em (p0 = 0) with c_16 | c_16
  · have hf := bw_pos c_16 hf
    refine bw_tableIn (off := 55) 56 dX4_count_1 (by rw [c_16]; decide) (by rw [c_16]; decide) (by rw [c_16]; rfl) (by decide) ?_
    refine bw_aload_n 0 dX4_count_56 rfl rfl ?_
    refine bw_gf bkX4 0 0 (by decide) fl_X4_10 rfl rfl dX4_count_57 ?_
    refine bw_gf bkX0 1 0 (by decide) fl_X4_52 rfl rfl dX4_count_60 ?_
    refine bw_iload_n 1 dX4_count_63 rfl rfl ?_
    obtain ⟨h_17, hf⟩ := bw_chk hf
    refine bw_iald 2 rfl h_17 dX4_count_64 ?_
    cases Option.some.inj hf
    exact bw_ret rfl rfl (Nat.le_of_ble_eq_true rfl) (Nat.le_of_ble_eq_true rfl) dX4_count_65 ⟨rfl, rfl⟩
  · have hf := bw_neg c_16 hf
    rcases Decidable.em (p0 = 1) with c_18 | c_18
    · have hf := bw_pos c_18 hf
      refine bw_tableIn (off := 55) 56 dX4_count_1 (by rw [c_18]; decide) (by rw [c_18]; decide) (by rw [c_18]; rfl) (by decide) ?_
      refine bw_aload_n 0 dX4_count_56 rfl rfl ?_
      refine bw_gf bkX4 0 0 (by decide) fl_X4_10 rfl rfl dX4_count_57 ?_
      refine bw_gf bkX0 1 0 (by decide) fl_X4_52 rfl rfl dX4_count_60 ?_
      refine bw_iload_n 1 dX4_count_63 rfl rfl ?_
      obtain ⟨h_19, hf⟩ := bw_chk hf
      refine bw_iald 2 rfl h_19 dX4_count_64 ?_
      cases Option.some.inj hf
      exact bw_ret rfl rfl (Nat.le_of_ble_eq_true rfl) (Nat.le_of_ble_eq_true rfl) dX4_count_65 ⟨rfl, rfl⟩
    · have hf := bw_neg c_18 hf
      rcases Decidable.em (p0 = 2) with c_20 | c_20
      · have hf := bw_pos c_20 hf
        refine bw_tableIn (off := 55) 56 dX4_count_1 (by rw [c_20]; decide) (by rw [c_20]; decide) (by rw [c_20]; rfl) (by decide) ?_
        refine bw_aload_n 0 dX4_count_56 rfl rfl ?_
        refine bw_gf bkX4 0 0 (by decide) fl_X4_10 rfl rfl dX4_count_57 ?_
        refine bw_gf bkX0 1 0 (by decide) fl_X4_52 rfl rfl dX4_count_60 ?_
        refine bw_iload_n 1 dX4_count_63 rfl rfl ?_
        obtain ⟨h_21, hf⟩ := bw_chk hf
        refine bw_iald 2 rfl h_21 dX4_count_64 ?_
        cases Option.some.inj hf
        exact bw_ret rfl rfl (Nat.le_of_ble_eq_true rfl) (Nat.le_of_ble_eq_true rfl) dX4_count_65 ⟨rfl, rfl⟩
      · have hf := bw_neg c_20 hf
        rcases Decidable.em (p0 = 3) with c_22 | c_22
        · have hf := bw_pos c_22 hf
          refine bw_tableIn (off := 65) 66 dX4_count_1 (by rw [c_22]; decide) (by rw [c_22]; decide) (by rw [c_22]; rfl) (by decide) ?_
          refine bw_aload_n 0 dX4_count_66 rfl rfl ?_
          refine bw_gf bkX4 0 0 (by decide) fl_X4_10 rfl rfl dX4_count_67 ?_
          refine bw_gf bkX0 1 5 (by decide) fl_X4_67 rfl rfl dX4_count_70 ?_
          cases Option.some.inj hf
          exact bw_ret rfl rfl (Nat.le_of_ble_eq_true rfl) (Nat.le_of_ble_eq_true rfl) dX4_count_73 ⟨rfl, rfl⟩
        · have hf := bw_neg c_22 hf
          rcases Decidable.em (p0 = 4) with c_23 | c_23
          · have hf := bw_pos c_23 hf
            refine bw_tableIn (off := 73) 74 dX4_count_1 (by rw [c_23]; decide) (by rw [c_23]; decide) (by rw [c_23]; rfl) (by decide) ?_
            refine bw_aload_n 0 dX4_count_74 rfl rfl ?_
            refine bw_gf bkX4 0 0 (by decide) fl_X4_10 rfl rfl dX4_count_75 ?_
            refine bw_gf bkX0 1 6 (by decide) fl_X4_120 rfl rfl dX4_count_78 ?_
            cases Option.some.inj hf
            exact bw_ret rfl rfl (Nat.le_of_ble_eq_true rfl) (Nat.le_of_ble_eq_true rfl) dX4_count_81 ⟨rfl, rfl⟩
          · have hf := bw_neg c_23 hf
            rcases Decidable.em (p0 = 5) with c_24 | c_24
            · have hf := bw_pos c_24 hf
              refine bw_tableIn (off := 81) 82 dX4_count_1 (by rw [c_24]; decide) (by rw [c_24]; decide) (by rw [c_24]; rfl) (by decide) ?_
              refine bw_aload_n 0 dX4_count_82 rfl rfl ?_
              refine bw_gf bkX4 0 0 (by decide) fl_X4_10 rfl rfl dX4_count_83 ?_
              refine bw_gf bkX0 1 7 (by decide) fl_X4_123 rfl rfl dX4_count_86 ?_
              cases Option.some.inj hf
              exact bw_ret rfl rfl (Nat.le_of_ble_eq_true rfl) (Nat.le_of_ble_eq_true rfl) dX4_count_89 ⟨rfl, rfl⟩
            · have hf := bw_neg c_24 hf
              rcases Decidable.em (p0 = 6) with c_25 | c_25
              · have hf := bw_pos c_25 hf
                refine bw_tableIn (off := 89) 90 dX4_count_1 (by rw [c_25]; decide) (by rw [c_25]; decide) (by rw [c_25]; rfl) (by decide) ?_
                refine bw_aload_n 0 dX4_count_90 rfl rfl ?_
                obtain ⟨q_26, hc_26, hf⟩ := bw_bind hf
                refine bw_callV [] [] [(ah_court_favours, .inl (g.2.1, 36, .inl vh_court_favours)), (ah_pad, .inr (2, [.ref ah_pad_characters, .int vh_pad_length])), (ah_history, .inr (1, [.ref ah_history_states, .int vh_history_next, .int vh_history_size]))] 0 4 (s_X4_courtiersMisled l g ah ah_court ah_pad ah_history ah_slots ah_seen ah_plain ah_trial ah_court_settings ah_court_eyes ah_court_favours ah_court_numbers ah_court_pauses ah_seen_words ah_seen_left ah_plain_words ah_plain_left vh_court_bows vh_court_given vh_court_taken vh_court_settings vh_court_eyes vh_court_numbers vh_court_pauses vh_seen_groups vh_seen_kept vh_seen_flourishes vh_seen_longGroups vh_seen_reason vh_seen_sentences vh_seen_words vh_seen_left vh_plain_groups vh_plain_kept vh_plain_flourishes vh_plain_longGroups vh_plain_reason vh_plain_sentences vh_plain_words vh_plain_left  _ hc_26) rfl co_X4_courtiersMisled ini_X4 ml_X4_155 im_X4_courtiersMisled se_X4_courtiersMisled ar_X4_courtiersMisled ⟨Nat.le_of_ble_eq_true rfl, Nat.le_of_ble_eq_true rfl⟩ ⟨Nat.le_of_ble_eq_true rfl, Nat.le_of_ble_eq_true rfl⟩ rfl rfl (bw_pick1 15 [0, 1, 2, 3, 5, 6, 9, 10, 11, 12, 13, 14, 4, 7, 8] rfl rfl (by decide)) (Nat.le_of_ble_eq_true rfl) dX4_count_91 (fun r w1 hq => ?_)
                obtain ⟨rfl, rfl⟩ := hq
                refine bw_perm (ws1 := [(ah, .inr (4, [.ref ah_court, .ref ah_pad, .ref ah_history, .ref ah_slots, .ref ah_seen, .ref ah_plain, .ref ah_trial])), (ah_court, .inr (0, [.ref ah_court_settings, .ref ah_court_eyes, .ref ah_court_favours, .ref ah_court_numbers, .ref ah_court_pauses, .int vh_court_bows, .int vh_court_given, .int vh_court_taken])), (ah_court_settings, .inl (g.2.1, 3, .inl vh_court_settings)), (ah_court_eyes, .inl (g.2.1, 6, .inl vh_court_eyes)), (ah_court_favours, .inl (g.2.1, 36, .inl vh_court_favours)), (ah_court_numbers, .inl (g.2.1, 24, .inl vh_court_numbers)), (ah_court_pauses, .inl (g.2.1, 24, .inl vh_court_pauses)), (ah_pad, .inr (2, [.ref ah_pad_characters, .int vh_pad_length])), (ah_history, .inr (1, [.ref ah_history_states, .int vh_history_next, .int vh_history_size])), (ah_seen, .inr (3, [.ref ah_seen_words, .int q_26.2.1, .ref ah_seen_left, .int q_26.2.2.1, .int q_26.2.2.2.1, .int q_26.2.2.2.2.1, .int q_26.2.2.2.2.2.1, .int q_26.2.2.2.2.2.2.1])), (ah_seen_words, .inl (g.2.1, 24, .inl q_26.2.2.2.2.2.2.2.1)), (ah_seen_left, .inl (g.2.1, 24, .inl q_26.2.2.2.2.2.2.2.2.1)), (ah_plain, .inr (3, [.ref ah_plain_words, .int q_26.2.2.2.2.2.2.2.2.2.1, .ref ah_plain_left, .int q_26.2.2.2.2.2.2.2.2.2.2.1, .int q_26.2.2.2.2.2.2.2.2.2.2.2.1, .int q_26.2.2.2.2.2.2.2.2.2.2.2.2.1, .int q_26.2.2.2.2.2.2.2.2.2.2.2.2.2.1, .int q_26.2.2.2.2.2.2.2.2.2.2.2.2.2.2.1])), (ah_plain_words, .inl (g.2.1, 24, .inl q_26.2.2.2.2.2.2.2.2.2.2.2.2.2.2.2.1)), (ah_plain_left, .inl (g.2.1, 24, .inl q_26.2.2.2.2.2.2.2.2.2.2.2.2.2.2.2.2))]) (bw_pick1 15 [3, 4, 5, 6, 0, 7, 8, 1, 2, 9, 10, 11, 12, 13, 14] rfl rfl (by decide)) ?_
                refine bw_st (st1 := [.int q_26.1]) rfl ?_
                cases Option.some.inj hf
                exact bw_ret rfl rfl (Nat.le_of_ble_eq_true rfl) (Nat.le_of_ble_eq_true rfl) dX4_count_94 ⟨rfl, rfl⟩
              · have hf := bw_neg c_25 hf
                rcases Decidable.em (p0 = 7) with c_27 | c_27
                · have hf := bw_pos c_27 hf
                  refine bw_tableIn (off := 94) 95 dX4_count_1 (by rw [c_27]; decide) (by rw [c_27]; decide) (by rw [c_27]; rfl) (by decide) ?_
                  refine bw_aload_n 0 dX4_count_95 rfl rfl ?_
                  obtain ⟨q_28, hc_28, hf⟩ := bw_bind hf
                  refine bw_callV [] [] [(ah_court_settings, .inl (g.2.1, 3, .inl vh_court_settings)), (ah_court_eyes, .inl (g.2.1, 6, .inl vh_court_eyes)), (ah_court_numbers, .inl (g.2.1, 24, .inl vh_court_numbers)), (ah_court_pauses, .inl (g.2.1, 24, .inl vh_court_pauses)), (ah_pad, .inr (2, [.ref ah_pad_characters, .int vh_pad_length])), (ah_history, .inr (1, [.ref ah_history_states, .int vh_history_next, .int vh_history_size])), (ah_seen, .inr (3, [.ref ah_seen_words, .int vh_seen_groups, .ref ah_seen_left, .int vh_seen_kept, .int vh_seen_flourishes, .int vh_seen_longGroups, .int vh_seen_reason, .int vh_seen_sentences])), (ah_seen_words, .inl (g.2.1, 24, .inl vh_seen_words)), (ah_seen_left, .inl (g.2.1, 24, .inl vh_seen_left)), (ah_plain, .inr (3, [.ref ah_plain_words, .int vh_plain_groups, .ref ah_plain_left, .int vh_plain_kept, .int vh_plain_flourishes, .int vh_plain_longGroups, .int vh_plain_reason, .int vh_plain_sentences])), (ah_plain_words, .inl (g.2.1, 24, .inl vh_plain_words)), (ah_plain_left, .inl (g.2.1, 24, .inl vh_plain_left))] 0 4 (s_X4_sumOfAllFavours l g ah ah_court ah_pad ah_history ah_slots ah_seen ah_plain ah_trial ah_court_settings ah_court_eyes ah_court_favours ah_court_numbers ah_court_pauses vh_court_bows vh_court_given vh_court_taken vh_court_favours  _ hc_28) rfl co_X4_sumOfAllFavours ini_X4 ml_X4_158 im_X4_sumOfAllFavours se_X4_sumOfAllFavours ar_X4_sumOfAllFavours ⟨Nat.le_of_ble_eq_true rfl, Nat.le_of_ble_eq_true rfl⟩ ⟨Nat.le_of_ble_eq_true rfl, Nat.le_of_ble_eq_true rfl⟩ rfl rfl (bw_pick1 15 [0, 1, 4, 2, 3, 5, 6, 7, 8, 9, 10, 11, 12, 13, 14] rfl rfl (by decide)) (Nat.le_of_ble_eq_true rfl) dX4_count_96 (fun r w1 hq => ?_)
                  obtain ⟨rfl, rfl⟩ := hq
                  refine bw_perm (ws1 := [(ah, .inr (4, [.ref ah_court, .ref ah_pad, .ref ah_history, .ref ah_slots, .ref ah_seen, .ref ah_plain, .ref ah_trial])), (ah_court, .inr (0, [.ref ah_court_settings, .ref ah_court_eyes, .ref ah_court_favours, .ref ah_court_numbers, .ref ah_court_pauses, .int vh_court_bows, .int vh_court_given, .int vh_court_taken])), (ah_court_settings, .inl (g.2.1, 3, .inl vh_court_settings)), (ah_court_eyes, .inl (g.2.1, 6, .inl vh_court_eyes)), (ah_court_favours, .inl (g.2.1, 36, .inl vh_court_favours)), (ah_court_numbers, .inl (g.2.1, 24, .inl vh_court_numbers)), (ah_court_pauses, .inl (g.2.1, 24, .inl vh_court_pauses)), (ah_pad, .inr (2, [.ref ah_pad_characters, .int vh_pad_length])), (ah_history, .inr (1, [.ref ah_history_states, .int vh_history_next, .int vh_history_size])), (ah_seen, .inr (3, [.ref ah_seen_words, .int vh_seen_groups, .ref ah_seen_left, .int vh_seen_kept, .int vh_seen_flourishes, .int vh_seen_longGroups, .int vh_seen_reason, .int vh_seen_sentences])), (ah_seen_words, .inl (g.2.1, 24, .inl vh_seen_words)), (ah_seen_left, .inl (g.2.1, 24, .inl vh_seen_left)), (ah_plain, .inr (3, [.ref ah_plain_words, .int vh_plain_groups, .ref ah_plain_left, .int vh_plain_kept, .int vh_plain_flourishes, .int vh_plain_longGroups, .int vh_plain_reason, .int vh_plain_sentences])), (ah_plain_words, .inl (g.2.1, 24, .inl vh_plain_words)), (ah_plain_left, .inl (g.2.1, 24, .inl vh_plain_left))]) (bw_pick1 15 [12, 13, 0, 1, 14, 2, 3, 4, 5, 6, 7, 8, 9, 10, 11] rfl rfl (by decide)) ?_
                  refine bw_st (st1 := [.int q_28]) rfl ?_
                  cases Option.some.inj hf
                  exact bw_ret rfl rfl (Nat.le_of_ble_eq_true rfl) (Nat.le_of_ble_eq_true rfl) dX4_count_99 ⟨rfl, rfl⟩
                · have hf := bw_neg c_27 hf
                  rcases Decidable.em (p0 = 8) with c_29 | c_29
                  · have hf := bw_pos c_29 hf
                    refine bw_tableIn (off := 99) 100 dX4_count_1 (by rw [c_29]; decide) (by rw [c_29]; decide) (by rw [c_29]; rfl) (by decide) ?_
                    refine bw_aload_n 0 dX4_count_100 rfl rfl ?_
                    refine bw_gf bkX4 0 1 (by decide) fl_X4_19 rfl rfl dX4_count_101 ?_
                    refine bw_gf bkX2 7 1 (by decide) fl_X4_97 rfl rfl dX4_count_104 ?_
                    cases Option.some.inj hf
                    exact bw_ret rfl rfl (Nat.le_of_ble_eq_true rfl) (Nat.le_of_ble_eq_true rfl) dX4_count_107 ⟨rfl, rfl⟩
                  · have hf := bw_neg c_29 hf
                    rcases Decidable.em (p0 = 9) with c_30 | c_30
                    · have hf := bw_pos c_30 hf
                      refine bw_tableIn (off := 107) 108 dX4_count_1 (by rw [c_30]; decide) (by rw [c_30]; decide) (by rw [c_30]; rfl) (by decide) ?_
                      refine bw_aload_n 0 dX4_count_108 rfl rfl ?_
                      refine bw_gf bkX4 0 2 (by decide) fl_X4_26 rfl rfl dX4_count_109 ?_
                      refine bw_gf bkX1 8 2 (by decide) fl_X4_161 rfl rfl dX4_count_112 ?_
                      cases Option.some.inj hf
                      exact bw_ret rfl rfl (Nat.le_of_ble_eq_true rfl) (Nat.le_of_ble_eq_true rfl) dX4_count_115 ⟨rfl, rfl⟩
                    · have hf := bw_neg c_30 hf
                      refine bw_tableOut 116 dX4_count_1 (bw_out10_0 c_16 c_18 c_20 c_22 c_23 c_24 c_25 c_27 c_29 c_30) (by decide) ?_
                      refine bw_ldc ct_X4_47 dX4_count_116 ?_
                      cases Option.some.inj hf
                      exact bw_ret rfl rfl (Nat.le_of_ble_eq_true rfl) (Nat.le_of_ble_eq_true rfl) dX4_count_118 ⟨rfl, rfl⟩
def f_X4_favoursForGiver_L4 : Nat → (Nat → Int32) → (Int32) → (Int32) → (Int32) → Option (Int32)
  | 0, _, _, _, _ => none
  | fu + 1, vh_court_favours, x1, x2, x3 => (if 6 ≤ x3 then some x2 else ((f_X4_favourIndex x3 x1).bind fun q_5 => ((f_X4_at 36 vh_court_favours q_5).bind fun q_6 => (f_X4_favoursForGiver_L4 fu vh_court_favours x1 ((x2 + q_6)) ((x3 + 1))))))
set_option maxHeartbeats 4000000 in
set_option maxRecDepth 100000 in
theorem s_X4_favoursForGiver_L4 (l : Launch) (g : bwG) (ah ah_court ah_pad ah_history ah_slots ah_seen ah_plain ah_trial ah_court_settings ah_court_eyes ah_court_favours ah_court_numbers ah_court_pauses : Nat) (fu : Nat) : ∀ (vh_court_bows : Int32) (vh_court_given : Int32) (vh_court_taken : Int32) (vh_court_favours : Nat → Int32) (x1 : Int32) (x2 : Int32) (x3 : Int32) (res : Int32), f_X4_favoursForGiver_L4 fu vh_court_favours x1 x2 x3 = some res → bwR l g cX4_favoursForGiver 4 RX4 "favoursForGiver" (some .int) ({ frames := 1, cells := 0, slots := 0, locals := 21 } : Room) bwT (bwZ g (fun r w => r = some (.int res) ∧ w = [(ah, .inr (4, [.ref ah_court, .ref ah_pad, .ref ah_history, .ref ah_slots, .ref ah_seen, .ref ah_plain, .ref ah_trial])), (ah_court, .inr (0, [.ref ah_court_settings, .ref ah_court_eyes, .ref ah_court_favours, .ref ah_court_numbers, .ref ah_court_pauses, .int vh_court_bows, .int vh_court_given, .int vh_court_taken])), (ah_court_favours, .inl (g.2.1, 36, .inl vh_court_favours))]) 0 0) 4 [(0, .ref ah), (1, .int x1), (2, .int x2), (3, .int x3)] [] ([(ah, .inr (4, [.ref ah_court, .ref ah_pad, .ref ah_history, .ref ah_slots, .ref ah_seen, .ref ah_plain, .ref ah_trial])), (ah_court, .inr (0, [.ref ah_court_settings, .ref ah_court_eyes, .ref ah_court_favours, .ref ah_court_numbers, .ref ah_court_pauses, .int vh_court_bows, .int vh_court_given, .int vh_court_taken])), (ah_court_favours, .inl (g.2.1, 36, .inl vh_court_favours))]) 0 0 := by
  induction fu with
  | zero => intro vh_court_bows vh_court_given vh_court_taken vh_court_favours x1 x2 x3 res hf; exact absurd hf (by intro h; cases h)
  | succ fu ih =>
    intro vh_court_bows vh_court_given vh_court_taken vh_court_favours x1 x2 x3 res hf
    rw [f_X4_favoursForGiver_L4] at hf
    refine bw_iload_n 3 dX4_favoursForGiver_4 rfl rfl ?_
    refine bw_bipush 6 dX4_favoursForGiver_5 (by decide) ?_
    refine bw_icmp_ge 34 dX4_favoursForGiver_7 (by decide) (fun c_4 => ?_) (fun c_4 => ?_)
    · have hf := bw_pos c_4 hf
      refine bw_iload_n 2 dX4_favoursForGiver_34 rfl rfl ?_
      cases Option.some.inj hf
      exact bw_ret rfl rfl (Nat.le_of_ble_eq_true rfl) (Nat.le_of_ble_eq_true rfl) dX4_favoursForGiver_35 ⟨rfl, rfl⟩
    · have hf := bw_neg c_4 hf
      refine bw_iload_n 2 dX4_favoursForGiver_10 rfl rfl ?_
      refine bw_aload_n 0 dX4_favoursForGiver_11 rfl rfl ?_
      refine bw_gf bkX4 0 0 (by decide) fl_X4_10 rfl rfl dX4_favoursForGiver_12 ?_
      refine bw_gf bkX0 1 2 (by decide) fl_X4_111 rfl rfl dX4_favoursForGiver_15 ?_
      refine bw_iload_n 3 dX4_favoursForGiver_18 rfl rfl ?_
      refine bw_iload_n 1 dX4_favoursForGiver_19 rfl rfl ?_
      obtain ⟨q_5, hc_5, hf⟩ := bw_bind hf
      refine bw_callS [.int x3, .int x1] [.ref ah_court_favours, .int x2] [(ah, .inr (4, [.ref ah_court, .ref ah_pad, .ref ah_history, .ref ah_slots, .ref ah_seen, .ref ah_plain, .ref ah_trial])), (ah_court, .inr (0, [.ref ah_court_settings, .ref ah_court_eyes, .ref ah_court_favours, .ref ah_court_numbers, .ref ah_court_pauses, .int vh_court_bows, .int vh_court_given, .int vh_court_taken])), (ah_court_favours, .inl (g.2.1, 36, .inl vh_court_favours))] (s_X4_favourIndex l g   x3 x1 _ hc_5) rfl co_X4_favourIndex ini_X4 ml_X4_114 st_X4_favourIndex ar_X4_favourIndex ⟨Nat.le_of_ble_eq_true rfl, Nat.le_of_ble_eq_true rfl⟩ ⟨Nat.le_of_ble_eq_true rfl, Nat.le_of_ble_eq_true rfl⟩ (bw_pick1 3 [0, 1, 2] rfl rfl (by decide)) (Nat.le_of_ble_eq_true rfl) dX4_favoursForGiver_20 (fun r w1 hq => ?_)
      obtain ⟨rfl, rfl⟩ := hq
      refine bw_perm (ws1 := [(ah, .inr (4, [.ref ah_court, .ref ah_pad, .ref ah_history, .ref ah_slots, .ref ah_seen, .ref ah_plain, .ref ah_trial])), (ah_court, .inr (0, [.ref ah_court_settings, .ref ah_court_eyes, .ref ah_court_favours, .ref ah_court_numbers, .ref ah_court_pauses, .int vh_court_bows, .int vh_court_given, .int vh_court_taken])), (ah_court_favours, .inl (g.2.1, 36, .inl vh_court_favours))]) (bw_pick1 3 [0, 1, 2] rfl rfl (by decide)) ?_
      refine bw_st (st1 := [.int q_5, .ref ah_court_favours, .int x2]) rfl ?_
      obtain ⟨q_6, hc_6, hf⟩ := bw_bind hf
      refine bw_callS [.ref ah_court_favours, .int q_5] [.int x2] [(ah, .inr (4, [.ref ah_court, .ref ah_pad, .ref ah_history, .ref ah_slots, .ref ah_seen, .ref ah_plain, .ref ah_trial])), (ah_court, .inr (0, [.ref ah_court_settings, .ref ah_court_eyes, .ref ah_court_favours, .ref ah_court_numbers, .ref ah_court_pauses, .int vh_court_bows, .int vh_court_given, .int vh_court_taken]))] (s_X4_at l g ah_court_favours 36 vh_court_favours q_5 _ hc_6) rfl co_X4_at ini_X4 ml_X4_145 st_X4_at ar_X4_at ⟨Nat.le_of_ble_eq_true rfl, Nat.le_of_ble_eq_true rfl⟩ ⟨Nat.le_of_ble_eq_true rfl, Nat.le_of_ble_eq_true rfl⟩ (bw_pick1 3 [2, 0, 1] rfl rfl (by decide)) (Nat.le_of_ble_eq_true rfl) dX4_favoursForGiver_23 (fun r w1 hq => ?_)
      obtain ⟨rfl, rfl⟩ := hq
      refine bw_perm (ws1 := [(ah, .inr (4, [.ref ah_court, .ref ah_pad, .ref ah_history, .ref ah_slots, .ref ah_seen, .ref ah_plain, .ref ah_trial])), (ah_court, .inr (0, [.ref ah_court_settings, .ref ah_court_eyes, .ref ah_court_favours, .ref ah_court_numbers, .ref ah_court_pauses, .int vh_court_bows, .int vh_court_given, .int vh_court_taken])), (ah_court_favours, .inl (g.2.1, 36, .inl vh_court_favours))]) (bw_pick1 3 [0, 1, 2] rfl rfl (by decide)) ?_
      refine bw_st (st1 := [.int q_6, .int x2]) rfl ?_
      refine bw_iadd dX4_favoursForGiver_26 ?_
      refine bw_istore_n [(2, .int ((x2 + q_6))), (0, .ref ah), (1, .int x1), (3, .int x3)] dX4_favoursForGiver_27 rfl (by decide) rfl ?_
      refine bw_iinc 3 (x3 + 1) [(3, .int ((x3 + 1))), (2, .int ((x2 + q_6))), (0, .ref ah), (1, .int x1)] dX4_favoursForGiver_28 rfl rfl (by decide) rfl ?_
      refine bw_goto 4 dX4_favoursForGiver_31 (by decide) ?_
      refine bw_lv [2, 3, 1, 0] rfl ?_
      exact ih vh_court_bows vh_court_given vh_court_taken vh_court_favours x1 ((x2 + q_6)) ((x3 + 1)) _ hf
theorem ar_X4_favoursForGiver : yX4_favoursForGiver.cls ≠ "java/lang/invoke/MethodHandle" ∧ yX4_favoursForGiver.cls ≠ "java/lang/invoke/VarHandle" ∧ (parseMethodDescriptor yX4_favoursForGiver.desc).map (fun d => d.parameters.length) = some 1 := ⟨by decide, by decide, by decide +kernel⟩
def f_X4_favoursForGiver (vh_court_favours : Nat → Int32) (p0 : Int32) : Option (Int32) := (f_X4_favoursForGiver_L4 bw_F vh_court_favours p0 0 0)
set_option maxHeartbeats 4000000 in
set_option maxRecDepth 100000 in
theorem s_X4_favoursForGiver (l : Launch) (g : bwG) (ah ah_court ah_pad ah_history ah_slots ah_seen ah_plain ah_trial ah_court_settings ah_court_eyes ah_court_favours ah_court_numbers ah_court_pauses : Nat) (vh_court_bows : Int32) (vh_court_given : Int32) (vh_court_taken : Int32) (vh_court_favours : Nat → Int32) (p0 : Int32) (res : Int32) (hf : f_X4_favoursForGiver vh_court_favours p0 = some res) : bwS l g yX4_favoursForGiver cX4_favoursForGiver 4 (some .int) ({ frames := 1, cells := 0, slots := 0, locals := 21 } : Room) [.ref ah, .int p0] ([(ah, .inr (4, [.ref ah_court, .ref ah_pad, .ref ah_history, .ref ah_slots, .ref ah_seen, .ref ah_plain, .ref ah_trial])), (ah_court, .inr (0, [.ref ah_court_settings, .ref ah_court_eyes, .ref ah_court_favours, .ref ah_court_numbers, .ref ah_court_pauses, .int vh_court_bows, .int vh_court_given, .int vh_court_taken])), (ah_court_favours, .inl (g.2.1, 36, .inl vh_court_favours))]) (fun r w => r = some (.int res) ∧ w = [(ah, .inr (4, [.ref ah_court, .ref ah_pad, .ref ah_history, .ref ah_slots, .ref ah_seen, .ref ah_plain, .ref ah_trial])), (ah_court, .inr (0, [.ref ah_court_settings, .ref ah_court_eyes, .ref ah_court_favours, .ref ah_court_numbers, .ref ah_court_pauses, .int vh_court_bows, .int vh_court_given, .int vh_court_taken])), (ah_court_favours, .inl (g.2.1, 36, .inl vh_court_favours))]) := by
  refine bwS_of (by decide) (Nat.le_of_ble_eq_true rfl) ?_
  unfold f_X4_favoursForGiver at hf
  show bwR l g cX4_favoursForGiver 4 RX4 "favoursForGiver" (some .int) ({ frames := 1, cells := 0, slots := 0, locals := 21 } : Room) bwT (bwZ g (fun r w => r = some (.int res) ∧ w = [(ah, .inr (4, [.ref ah_court, .ref ah_pad, .ref ah_history, .ref ah_slots, .ref ah_seen, .ref ah_plain, .ref ah_trial])), (ah_court, .inr (0, [.ref ah_court_settings, .ref ah_court_eyes, .ref ah_court_favours, .ref ah_court_numbers, .ref ah_court_pauses, .int vh_court_bows, .int vh_court_given, .int vh_court_taken])), (ah_court_favours, .inl (g.2.1, 36, .inl vh_court_favours))]) 0 0) 0 [(0, .ref ah), (1, .int p0)] [] ([(ah, .inr (4, [.ref ah_court, .ref ah_pad, .ref ah_history, .ref ah_slots, .ref ah_seen, .ref ah_plain, .ref ah_trial])), (ah_court, .inr (0, [.ref ah_court_settings, .ref ah_court_eyes, .ref ah_court_favours, .ref ah_court_numbers, .ref ah_court_pauses, .int vh_court_bows, .int vh_court_given, .int vh_court_taken])), (ah_court_favours, .inl (g.2.1, 36, .inl vh_court_favours))]) 0 0
  refine bw_iconst 0 dX4_favoursForGiver_0 (by decide) ?_
  refine bw_istore_n [(2, .int 0), (0, .ref ah), (1, .int p0)] dX4_favoursForGiver_1 rfl (by decide) rfl ?_
  refine bw_iconst 0 dX4_favoursForGiver_2 (by decide) ?_
  refine bw_istore_n [(3, .int 0), (2, .int 0), (0, .ref ah), (1, .int p0)] dX4_favoursForGiver_3 rfl (by decide) rfl ?_
  refine bw_lv [2, 3, 1, 0] rfl ?_
  exact s_X4_favoursForGiver_L4 l g ah ah_court ah_pad ah_history ah_slots ah_seen ah_plain ah_trial ah_court_settings ah_court_eyes ah_court_favours ah_court_numbers ah_court_pauses bw_F vh_court_bows vh_court_given vh_court_taken vh_court_favours p0 0 0 _ hf
theorem ar_X4_canBeGiven : yX4_canBeGiven.cls ≠ "java/lang/invoke/MethodHandle" ∧ yX4_canBeGiven.cls ≠ "java/lang/invoke/VarHandle" ∧ (parseMethodDescriptor yX4_canBeGiven.desc).map (fun d => d.parameters.length) = some 0 := ⟨by decide, by decide, by decide +kernel⟩
def f_X4_canBeGiven (vh_court_bows : Int32) (vh_court_settings : Nat → Int32) (vh_court_numbers : Nat → Int32) (vh_court_pauses : Nat → Int32) (vh_plain_groups : Int32) (vh_plain_kept : Int32) (vh_plain_flourishes : Int32) (vh_plain_longGroups : Int32) (vh_plain_reason : Int32) (vh_plain_sentences : Int32) (vh_plain_words : Nat → Int32) (vh_plain_left : Nat → Int32)  : Option (Int32 × (Int32) × (Int32) × (Int32) × (Int32) × (Int32) × (Int32) × (Nat → Int32) × (Nat → Int32)) := ((f_X3_look vh_plain_groups vh_plain_kept vh_plain_flourishes vh_plain_longGroups vh_plain_reason vh_plain_sentences vh_plain_words vh_plain_left vh_court_bows vh_court_settings vh_court_numbers vh_court_pauses 0).bind fun q_3 => (if q_3.2.2.2.2.1 = 0 then some (1, q_3.1, q_3.2.1, q_3.2.2.1, q_3.2.2.2.1, q_3.2.2.2.2.1, q_3.2.2.2.2.2.1, q_3.2.2.2.2.2.2.1, q_3.2.2.2.2.2.2.2) else some (0, q_3.1, q_3.2.1, q_3.2.2.1, q_3.2.2.2.1, q_3.2.2.2.2.1, q_3.2.2.2.2.2.1, q_3.2.2.2.2.2.2.1, q_3.2.2.2.2.2.2.2)))
set_option maxHeartbeats 4000000 in
set_option maxRecDepth 100000 in
theorem s_X4_canBeGiven (l : Launch) (g : bwG) (ah ah_court ah_pad ah_history ah_slots ah_seen ah_plain ah_trial ah_court_settings ah_court_eyes ah_court_favours ah_court_numbers ah_court_pauses ah_plain_words ah_plain_left : Nat) (vh_court_bows : Int32) (vh_court_given : Int32) (vh_court_taken : Int32) (vh_court_settings : Nat → Int32) (vh_court_numbers : Nat → Int32) (vh_court_pauses : Nat → Int32) (vh_plain_groups : Int32) (vh_plain_kept : Int32) (vh_plain_flourishes : Int32) (vh_plain_longGroups : Int32) (vh_plain_reason : Int32) (vh_plain_sentences : Int32) (vh_plain_words : Nat → Int32) (vh_plain_left : Nat → Int32)  (res : Int32 × (Int32) × (Int32) × (Int32) × (Int32) × (Int32) × (Int32) × (Nat → Int32) × (Nat → Int32)) (hf : f_X4_canBeGiven vh_court_bows vh_court_settings vh_court_numbers vh_court_pauses vh_plain_groups vh_plain_kept vh_plain_flourishes vh_plain_longGroups vh_plain_reason vh_plain_sentences vh_plain_words vh_plain_left  = some res) : bwS l g yX4_canBeGiven cX4_canBeGiven 1 (some .boolean) ({ frames := 4, cells := 0, slots := 0, locals := 91 } : Room) [.ref ah] ([(ah, .inr (4, [.ref ah_court, .ref ah_pad, .ref ah_history, .ref ah_slots, .ref ah_seen, .ref ah_plain, .ref ah_trial])), (ah_court, .inr (0, [.ref ah_court_settings, .ref ah_court_eyes, .ref ah_court_favours, .ref ah_court_numbers, .ref ah_court_pauses, .int vh_court_bows, .int vh_court_given, .int vh_court_taken])), (ah_court_settings, .inl (g.2.1, 3, .inl vh_court_settings)), (ah_court_numbers, .inl (g.2.1, 24, .inl vh_court_numbers)), (ah_court_pauses, .inl (g.2.1, 24, .inl vh_court_pauses)), (ah_plain, .inr (3, [.ref ah_plain_words, .int vh_plain_groups, .ref ah_plain_left, .int vh_plain_kept, .int vh_plain_flourishes, .int vh_plain_longGroups, .int vh_plain_reason, .int vh_plain_sentences])), (ah_plain_words, .inl (g.2.1, 24, .inl vh_plain_words)), (ah_plain_left, .inl (g.2.1, 24, .inl vh_plain_left))]) (fun r w => r = some (.int res.1) ∧ w = [(ah, .inr (4, [.ref ah_court, .ref ah_pad, .ref ah_history, .ref ah_slots, .ref ah_seen, .ref ah_plain, .ref ah_trial])), (ah_court, .inr (0, [.ref ah_court_settings, .ref ah_court_eyes, .ref ah_court_favours, .ref ah_court_numbers, .ref ah_court_pauses, .int vh_court_bows, .int vh_court_given, .int vh_court_taken])), (ah_court_settings, .inl (g.2.1, 3, .inl vh_court_settings)), (ah_court_numbers, .inl (g.2.1, 24, .inl vh_court_numbers)), (ah_court_pauses, .inl (g.2.1, 24, .inl vh_court_pauses)), (ah_plain, .inr (3, [.ref ah_plain_words, .int res.2.1, .ref ah_plain_left, .int res.2.2.1, .int res.2.2.2.1, .int res.2.2.2.2.1, .int res.2.2.2.2.2.1, .int res.2.2.2.2.2.2.1])), (ah_plain_words, .inl (g.2.1, 24, .inl res.2.2.2.2.2.2.2.1)), (ah_plain_left, .inl (g.2.1, 24, .inl res.2.2.2.2.2.2.2.2))]) := by
  refine bwS_of (by decide) (Nat.le_of_ble_eq_true rfl) ?_
  unfold f_X4_canBeGiven at hf
  show bwR l g cX4_canBeGiven 1 RX4 "canBeGiven" (some .boolean) ({ frames := 4, cells := 0, slots := 0, locals := 91 } : Room) bwT (bwZ g (fun r w => r = some (.int res.1) ∧ w = [(ah, .inr (4, [.ref ah_court, .ref ah_pad, .ref ah_history, .ref ah_slots, .ref ah_seen, .ref ah_plain, .ref ah_trial])), (ah_court, .inr (0, [.ref ah_court_settings, .ref ah_court_eyes, .ref ah_court_favours, .ref ah_court_numbers, .ref ah_court_pauses, .int vh_court_bows, .int vh_court_given, .int vh_court_taken])), (ah_court_settings, .inl (g.2.1, 3, .inl vh_court_settings)), (ah_court_numbers, .inl (g.2.1, 24, .inl vh_court_numbers)), (ah_court_pauses, .inl (g.2.1, 24, .inl vh_court_pauses)), (ah_plain, .inr (3, [.ref ah_plain_words, .int res.2.1, .ref ah_plain_left, .int res.2.2.1, .int res.2.2.2.1, .int res.2.2.2.2.1, .int res.2.2.2.2.2.1, .int res.2.2.2.2.2.2.1])), (ah_plain_words, .inl (g.2.1, 24, .inl res.2.2.2.2.2.2.2.1)), (ah_plain_left, .inl (g.2.1, 24, .inl res.2.2.2.2.2.2.2.2))]) 0 0) 0 [(0, .ref ah)] [] ([(ah, .inr (4, [.ref ah_court, .ref ah_pad, .ref ah_history, .ref ah_slots, .ref ah_seen, .ref ah_plain, .ref ah_trial])), (ah_court, .inr (0, [.ref ah_court_settings, .ref ah_court_eyes, .ref ah_court_favours, .ref ah_court_numbers, .ref ah_court_pauses, .int vh_court_bows, .int vh_court_given, .int vh_court_taken])), (ah_court_settings, .inl (g.2.1, 3, .inl vh_court_settings)), (ah_court_numbers, .inl (g.2.1, 24, .inl vh_court_numbers)), (ah_court_pauses, .inl (g.2.1, 24, .inl vh_court_pauses)), (ah_plain, .inr (3, [.ref ah_plain_words, .int vh_plain_groups, .ref ah_plain_left, .int vh_plain_kept, .int vh_plain_flourishes, .int vh_plain_longGroups, .int vh_plain_reason, .int vh_plain_sentences])), (ah_plain_words, .inl (g.2.1, 24, .inl vh_plain_words)), (ah_plain_left, .inl (g.2.1, 24, .inl vh_plain_left))]) 0 0
  refine bw_aload_n 0 dX4_canBeGiven_0 rfl rfl ?_
  refine bw_gf bkX4 0 5 (by decide) fl_X4_41 rfl rfl dX4_canBeGiven_1 ?_
  refine bw_aload_n 0 dX4_canBeGiven_4 rfl rfl ?_
  refine bw_gf bkX4 0 0 (by decide) fl_X4_10 rfl rfl dX4_canBeGiven_5 ?_
  refine bw_iconst 0 dX4_canBeGiven_8 (by decide) ?_
  obtain ⟨q_3, hc_3, hf⟩ := bw_bind hf
  refine bw_callV [.ref ah_court, .int 0] [] [(ah, .inr (4, [.ref ah_court, .ref ah_pad, .ref ah_history, .ref ah_slots, .ref ah_seen, .ref ah_plain, .ref ah_trial]))] 0 3 (s_X3_look l g ah_plain ah_plain_words ah_plain_left ah_court ah_court_settings ah_court_eyes ah_court_favours ah_court_numbers ah_court_pauses vh_plain_groups vh_plain_kept vh_plain_flourishes vh_plain_longGroups vh_plain_reason vh_plain_sentences vh_plain_words vh_plain_left vh_court_bows vh_court_given vh_court_taken vh_court_settings vh_court_numbers vh_court_pauses 0 _ hc_3) rfl co_X3_look ini_X3 ml_X4_126 im_X3_look se_X3_look ar_X3_look ⟨Nat.le_of_ble_eq_true rfl, Nat.le_of_ble_eq_true rfl⟩ ⟨Nat.le_of_ble_eq_true rfl, Nat.le_of_ble_eq_true rfl⟩ rfl rfl (bw_pick1 8 [5, 6, 7, 1, 2, 3, 4, 0] rfl rfl (by decide)) (Nat.le_of_ble_eq_true rfl) dX4_canBeGiven_9 (fun r w1 hq => ?_)
  obtain ⟨rfl, rfl⟩ := hq
  refine bw_perm (ws1 := [(ah, .inr (4, [.ref ah_court, .ref ah_pad, .ref ah_history, .ref ah_slots, .ref ah_seen, .ref ah_plain, .ref ah_trial])), (ah_court, .inr (0, [.ref ah_court_settings, .ref ah_court_eyes, .ref ah_court_favours, .ref ah_court_numbers, .ref ah_court_pauses, .int vh_court_bows, .int vh_court_given, .int vh_court_taken])), (ah_court_settings, .inl (g.2.1, 3, .inl vh_court_settings)), (ah_court_numbers, .inl (g.2.1, 24, .inl vh_court_numbers)), (ah_court_pauses, .inl (g.2.1, 24, .inl vh_court_pauses)), (ah_plain, .inr (3, [.ref ah_plain_words, .int q_3.1, .ref ah_plain_left, .int q_3.2.1, .int q_3.2.2.1, .int q_3.2.2.2.1, .int q_3.2.2.2.2.1, .int q_3.2.2.2.2.2.1])), (ah_plain_words, .inl (g.2.1, 24, .inl q_3.2.2.2.2.2.2.1)), (ah_plain_left, .inl (g.2.1, 24, .inl q_3.2.2.2.2.2.2.2))]) (bw_pick1 8 [0, 4, 5, 6, 7, 1, 2, 3] rfl rfl (by decide)) ?_
  refine bw_st (st1 := []) rfl ?_
  refine bw_aload_n 0 dX4_canBeGiven_12 rfl rfl ?_
  refine bw_gf bkX4 0 5 (by decide) fl_X4_41 rfl rfl dX4_canBeGiven_13 ?_
  refine bw_gf bkX3 5 6 (by decide) fl_X4_133 rfl rfl dX4_canBeGiven_16 ?_
  refine bw_if_ne 26 dX4_canBeGiven_19 (by decide) (fun c_4 => ?_) (fun c_4 => ?_)
  · have hf := bw_neg c_4 hf
    refine bw_iconst 0 dX4_canBeGiven_26 (by decide) ?_
    cases Option.some.inj hf
    exact bw_ret rfl rfl (Nat.le_of_ble_eq_true rfl) (Nat.le_of_ble_eq_true rfl) dX4_canBeGiven_27 ⟨rfl, rfl⟩
  · have hf := bw_pos c_4 hf
    refine bw_iconst 1 dX4_canBeGiven_22 (by decide) ?_
    refine bw_goto 27 dX4_canBeGiven_23 (by decide) ?_
    cases Option.some.inj hf
    exact bw_ret rfl rfl (Nat.le_of_ble_eq_true rfl) (Nat.le_of_ble_eq_true rfl) dX4_canBeGiven_27 ⟨rfl, rfl⟩
def f_X4_sentencesSeenFor_L4 : Nat → (Int32) → (Nat → Int32) → (Int32) → (Int32) → (Int32) → Option (Int32)
  | 0, _, _, _, _, _ => none
  | fu + 1, vh_seen_sentences, vh_seen_left, x1, x2, x3 => (if vh_seen_sentences ≤ x3 then some x2 else ((f_X3_part vh_seen_left x3 0).bind fun q_5 => (if q_5 = x1 then (f_X4_sentencesSeenFor_L4 fu vh_seen_sentences vh_seen_left x1 x2 ((x3 + 1))) else (f_X4_sentencesSeenFor_L4 fu vh_seen_sentences vh_seen_left x1 ((x2 + 1)) ((x3 + 1))))))
set_option maxHeartbeats 4000000 in
set_option maxRecDepth 100000 in
theorem s_X4_sentencesSeenFor_L4 (l : Launch) (g : bwG) (ah ah_court ah_pad ah_history ah_slots ah_seen ah_plain ah_trial ah_seen_words ah_seen_left : Nat) (fu : Nat) : ∀ (vh_seen_groups : Int32) (vh_seen_kept : Int32) (vh_seen_flourishes : Int32) (vh_seen_longGroups : Int32) (vh_seen_reason : Int32) (vh_seen_sentences : Int32) (vh_seen_left : Nat → Int32) (x1 : Int32) (x2 : Int32) (x3 : Int32) (res : Int32), f_X4_sentencesSeenFor_L4 fu vh_seen_sentences vh_seen_left x1 x2 x3 = some res → bwR l g cX4_sentencesSeenFor 4 RX4 "sentencesSeenFor" (some .int) ({ frames := 1, cells := 0, slots := 0, locals := 23 } : Room) bwT (bwZ g (fun r w => r = some (.int res) ∧ w = [(ah, .inr (4, [.ref ah_court, .ref ah_pad, .ref ah_history, .ref ah_slots, .ref ah_seen, .ref ah_plain, .ref ah_trial])), (ah_seen, .inr (3, [.ref ah_seen_words, .int vh_seen_groups, .ref ah_seen_left, .int vh_seen_kept, .int vh_seen_flourishes, .int vh_seen_longGroups, .int vh_seen_reason, .int vh_seen_sentences])), (ah_seen_left, .inl (g.2.1, 24, .inl vh_seen_left))]) 0 0) 4 [(0, .ref ah), (1, .int x1), (2, .int x2), (3, .int x3)] [] ([(ah, .inr (4, [.ref ah_court, .ref ah_pad, .ref ah_history, .ref ah_slots, .ref ah_seen, .ref ah_plain, .ref ah_trial])), (ah_seen, .inr (3, [.ref ah_seen_words, .int vh_seen_groups, .ref ah_seen_left, .int vh_seen_kept, .int vh_seen_flourishes, .int vh_seen_longGroups, .int vh_seen_reason, .int vh_seen_sentences])), (ah_seen_left, .inl (g.2.1, 24, .inl vh_seen_left))]) 0 0 := by
  induction fu with
  | zero => intro vh_seen_groups vh_seen_kept vh_seen_flourishes vh_seen_longGroups vh_seen_reason vh_seen_sentences vh_seen_left x1 x2 x3 res hf; exact absurd hf (by intro h; cases h)
  | succ fu ih =>
    intro vh_seen_groups vh_seen_kept vh_seen_flourishes vh_seen_longGroups vh_seen_reason vh_seen_sentences vh_seen_left x1 x2 x3 res hf
    rw [f_X4_sentencesSeenFor_L4] at hf
    refine bw_iload_n 3 dX4_sentencesSeenFor_4 rfl rfl ?_
    refine bw_aload_n 0 dX4_sentencesSeenFor_5 rfl rfl ?_
    refine bw_gf bkX4 0 4 (by decide) fl_X4_37 rfl rfl dX4_sentencesSeenFor_6 ?_
    refine bw_gf bkX3 1 7 (by decide) fl_X4_136 rfl rfl dX4_sentencesSeenFor_9 ?_
    refine bw_icmp_ge 37 dX4_sentencesSeenFor_12 (by decide) (fun c_4 => ?_) (fun c_4 => ?_)
    · have hf := bw_pos c_4 hf
      refine bw_iload_n 2 dX4_sentencesSeenFor_37 rfl rfl ?_
      cases Option.some.inj hf
      exact bw_ret rfl rfl (Nat.le_of_ble_eq_true rfl) (Nat.le_of_ble_eq_true rfl) dX4_sentencesSeenFor_38 ⟨rfl, rfl⟩
    · have hf := bw_neg c_4 hf
      refine bw_aload_n 0 dX4_sentencesSeenFor_15 rfl rfl ?_
      refine bw_gf bkX4 0 4 (by decide) fl_X4_37 rfl rfl dX4_sentencesSeenFor_16 ?_
      refine bw_iload_n 3 dX4_sentencesSeenFor_19 rfl rfl ?_
      refine bw_iconst 0 dX4_sentencesSeenFor_20 (by decide) ?_
      obtain ⟨q_5, hc_5, hf⟩ := bw_bind hf
      refine bw_callV [.int x3, .int 0] [] [(ah, .inr (4, [.ref ah_court, .ref ah_pad, .ref ah_history, .ref ah_slots, .ref ah_seen, .ref ah_plain, .ref ah_trial]))] 0 3 (s_X3_part l g ah_seen ah_seen_words ah_seen_left vh_seen_groups vh_seen_kept vh_seen_flourishes vh_seen_longGroups vh_seen_reason vh_seen_sentences vh_seen_left x3 0 _ hc_5) rfl co_X3_part ini_X3 ml_X4_152 im_X3_part se_X3_part ar_X3_part ⟨Nat.le_of_ble_eq_true rfl, Nat.le_of_ble_eq_true rfl⟩ ⟨Nat.le_of_ble_eq_true rfl, Nat.le_of_ble_eq_true rfl⟩ rfl rfl (bw_pick1 3 [1, 2, 0] rfl rfl (by decide)) (Nat.le_of_ble_eq_true rfl) dX4_sentencesSeenFor_21 (fun r w1 hq => ?_)
      obtain ⟨rfl, rfl⟩ := hq
      refine bw_perm (ws1 := [(ah, .inr (4, [.ref ah_court, .ref ah_pad, .ref ah_history, .ref ah_slots, .ref ah_seen, .ref ah_plain, .ref ah_trial])), (ah_seen, .inr (3, [.ref ah_seen_words, .int vh_seen_groups, .ref ah_seen_left, .int vh_seen_kept, .int vh_seen_flourishes, .int vh_seen_longGroups, .int vh_seen_reason, .int vh_seen_sentences])), (ah_seen_left, .inl (g.2.1, 24, .inl vh_seen_left))]) (bw_pick1 3 [0, 1, 2] rfl rfl (by decide)) ?_
      refine bw_st (st1 := [.int q_5]) rfl ?_
      refine bw_iload_n 1 dX4_sentencesSeenFor_24 rfl rfl ?_
      refine bw_icmp_eq 31 dX4_sentencesSeenFor_25 (by decide) (fun c_6 => ?_) (fun c_6 => ?_)
      · have hf := bw_pos c_6 hf
        refine bw_iinc 3 (x3 + 1) [(3, .int ((x3 + 1))), (0, .ref ah), (1, .int x1), (2, .int x2)] dX4_sentencesSeenFor_31 rfl rfl (by decide) rfl ?_
        refine bw_goto 4 dX4_sentencesSeenFor_34 (by decide) ?_
        refine bw_lv [1, 2, 3, 0] rfl ?_
        exact ih vh_seen_groups vh_seen_kept vh_seen_flourishes vh_seen_longGroups vh_seen_reason vh_seen_sentences vh_seen_left x1 x2 ((x3 + 1)) _ hf
      · have hf := bw_neg c_6 hf
        refine bw_iinc 2 (x2 + 1) [(2, .int ((x2 + 1))), (0, .ref ah), (1, .int x1), (3, .int x3)] dX4_sentencesSeenFor_28 rfl rfl (by decide) rfl ?_
        refine bw_iinc 3 (x3 + 1) [(3, .int ((x3 + 1))), (2, .int ((x2 + 1))), (0, .ref ah), (1, .int x1)] dX4_sentencesSeenFor_31 rfl rfl (by decide) rfl ?_
        refine bw_goto 4 dX4_sentencesSeenFor_34 (by decide) ?_
        refine bw_lv [2, 3, 1, 0] rfl ?_
        exact ih vh_seen_groups vh_seen_kept vh_seen_flourishes vh_seen_longGroups vh_seen_reason vh_seen_sentences vh_seen_left x1 ((x2 + 1)) ((x3 + 1)) _ hf
theorem ar_X4_sentencesSeenFor : yX4_sentencesSeenFor.cls ≠ "java/lang/invoke/MethodHandle" ∧ yX4_sentencesSeenFor.cls ≠ "java/lang/invoke/VarHandle" ∧ (parseMethodDescriptor yX4_sentencesSeenFor.desc).map (fun d => d.parameters.length) = some 1 := ⟨by decide, by decide, by decide +kernel⟩
def f_X4_sentencesSeenFor (vh_seen_sentences : Int32) (vh_seen_left : Nat → Int32) (p0 : Int32) : Option (Int32) := (f_X4_sentencesSeenFor_L4 bw_F vh_seen_sentences vh_seen_left p0 0 0)
set_option maxHeartbeats 4000000 in
set_option maxRecDepth 100000 in
theorem s_X4_sentencesSeenFor (l : Launch) (g : bwG) (ah ah_court ah_pad ah_history ah_slots ah_seen ah_plain ah_trial ah_seen_words ah_seen_left : Nat) (vh_seen_groups : Int32) (vh_seen_kept : Int32) (vh_seen_flourishes : Int32) (vh_seen_longGroups : Int32) (vh_seen_reason : Int32) (vh_seen_sentences : Int32) (vh_seen_left : Nat → Int32) (p0 : Int32) (res : Int32) (hf : f_X4_sentencesSeenFor vh_seen_sentences vh_seen_left p0 = some res) : bwS l g yX4_sentencesSeenFor cX4_sentencesSeenFor 4 (some .int) ({ frames := 1, cells := 0, slots := 0, locals := 23 } : Room) [.ref ah, .int p0] ([(ah, .inr (4, [.ref ah_court, .ref ah_pad, .ref ah_history, .ref ah_slots, .ref ah_seen, .ref ah_plain, .ref ah_trial])), (ah_seen, .inr (3, [.ref ah_seen_words, .int vh_seen_groups, .ref ah_seen_left, .int vh_seen_kept, .int vh_seen_flourishes, .int vh_seen_longGroups, .int vh_seen_reason, .int vh_seen_sentences])), (ah_seen_left, .inl (g.2.1, 24, .inl vh_seen_left))]) (fun r w => r = some (.int res) ∧ w = [(ah, .inr (4, [.ref ah_court, .ref ah_pad, .ref ah_history, .ref ah_slots, .ref ah_seen, .ref ah_plain, .ref ah_trial])), (ah_seen, .inr (3, [.ref ah_seen_words, .int vh_seen_groups, .ref ah_seen_left, .int vh_seen_kept, .int vh_seen_flourishes, .int vh_seen_longGroups, .int vh_seen_reason, .int vh_seen_sentences])), (ah_seen_left, .inl (g.2.1, 24, .inl vh_seen_left))]) := by
  refine bwS_of (by decide) (Nat.le_of_ble_eq_true rfl) ?_
  unfold f_X4_sentencesSeenFor at hf
  show bwR l g cX4_sentencesSeenFor 4 RX4 "sentencesSeenFor" (some .int) ({ frames := 1, cells := 0, slots := 0, locals := 23 } : Room) bwT (bwZ g (fun r w => r = some (.int res) ∧ w = [(ah, .inr (4, [.ref ah_court, .ref ah_pad, .ref ah_history, .ref ah_slots, .ref ah_seen, .ref ah_plain, .ref ah_trial])), (ah_seen, .inr (3, [.ref ah_seen_words, .int vh_seen_groups, .ref ah_seen_left, .int vh_seen_kept, .int vh_seen_flourishes, .int vh_seen_longGroups, .int vh_seen_reason, .int vh_seen_sentences])), (ah_seen_left, .inl (g.2.1, 24, .inl vh_seen_left))]) 0 0) 0 [(0, .ref ah), (1, .int p0)] [] ([(ah, .inr (4, [.ref ah_court, .ref ah_pad, .ref ah_history, .ref ah_slots, .ref ah_seen, .ref ah_plain, .ref ah_trial])), (ah_seen, .inr (3, [.ref ah_seen_words, .int vh_seen_groups, .ref ah_seen_left, .int vh_seen_kept, .int vh_seen_flourishes, .int vh_seen_longGroups, .int vh_seen_reason, .int vh_seen_sentences])), (ah_seen_left, .inl (g.2.1, 24, .inl vh_seen_left))]) 0 0
  refine bw_iconst 0 dX4_sentencesSeenFor_0 (by decide) ?_
  refine bw_istore_n [(2, .int 0), (0, .ref ah), (1, .int p0)] dX4_sentencesSeenFor_1 rfl (by decide) rfl ?_
  refine bw_iconst 0 dX4_sentencesSeenFor_2 (by decide) ?_
  refine bw_istore_n [(3, .int 0), (2, .int 0), (0, .ref ah), (1, .int p0)] dX4_sentencesSeenFor_3 rfl (by decide) rfl ?_
  refine bw_lv [2, 3, 1, 0] rfl ?_
  exact s_X4_sentencesSeenFor_L4 l g ah ah_court ah_pad ah_history ah_slots ah_seen ah_plain ah_trial ah_seen_words ah_seen_left bw_F vh_seen_groups vh_seen_kept vh_seen_flourishes vh_seen_longGroups vh_seen_reason vh_seen_sentences vh_seen_left p0 0 0 _ hf
theorem ar_X4_sentencesTakenIfGiven : yX4_sentencesTakenIfGiven.cls ≠ "java/lang/invoke/MethodHandle" ∧ yX4_sentencesTakenIfGiven.cls ≠ "java/lang/invoke/VarHandle" ∧ (parseMethodDescriptor yX4_sentencesTakenIfGiven.desc).map (fun d => d.parameters.length) = some 1 := ⟨by decide, by decide, by decide +kernel⟩
def f_X4_sentencesTakenIfGiven (vh_court_bows : Int32) (vh_court_settings : Nat → Int32) (vh_court_eyes : Nat → Int32) (vh_court_numbers : Nat → Int32) (vh_court_pauses : Nat → Int32) (vh_seen_groups : Int32) (vh_seen_kept : Int32) (vh_seen_flourishes : Int32) (vh_seen_longGroups : Int32) (vh_seen_reason : Int32) (vh_seen_sentences : Int32) (vh_seen_words : Nat → Int32) (vh_seen_left : Nat → Int32) (vh_plain_groups : Int32) (vh_plain_kept : Int32) (vh_plain_flourishes : Int32) (vh_plain_longGroups : Int32) (vh_plain_reason : Int32) (vh_plain_sentences : Int32) (vh_plain_words : Nat → Int32) (vh_plain_left : Nat → Int32) (p0 : Int32) : Option (Int32 × (Int32) × (Int32) × (Int32) × (Int32) × (Int32) × (Int32) × (Nat → Int32) × (Nat → Int32) × (Int32) × (Int32) × (Int32) × (Int32) × (Int32) × (Int32) × (Nat → Int32) × (Nat → Int32)) := ((f_X4_canBeGiven vh_court_bows vh_court_settings vh_court_numbers vh_court_pauses vh_plain_groups vh_plain_kept vh_plain_flourishes vh_plain_longGroups vh_plain_reason vh_plain_sentences vh_plain_words vh_plain_left).bind fun q_5 => (if q_5.1 = 0 then some (0, vh_seen_groups, vh_seen_kept, vh_seen_flourishes, vh_seen_longGroups, vh_seen_reason, vh_seen_sentences, vh_seen_words, vh_seen_left, q_5.2.1, q_5.2.2.1, q_5.2.2.2.1, q_5.2.2.2.2.1, q_5.2.2.2.2.2.1, q_5.2.2.2.2.2.2.1, q_5.2.2.2.2.2.2.2.1, q_5.2.2.2.2.2.2.2.2) else ((f_X4_lookThroughEyesOf vh_court_bows vh_court_settings vh_court_eyes vh_court_numbers vh_court_pauses vh_seen_groups vh_seen_kept vh_seen_flourishes vh_seen_longGroups vh_seen_reason vh_seen_sentences vh_seen_words vh_seen_left p0).bind fun q_7 => ((f_X4_sentencesSeenFor q_7.2.2.2.2.2.1 q_7.2.2.2.2.2.2.2 p0).bind fun q_8 => some (q_8, q_7.1, q_7.2.1, q_7.2.2.1, q_7.2.2.2.1, q_7.2.2.2.2.1, q_7.2.2.2.2.2.1, q_7.2.2.2.2.2.2.1, q_7.2.2.2.2.2.2.2, q_5.2.1, q_5.2.2.1, q_5.2.2.2.1, q_5.2.2.2.2.1, q_5.2.2.2.2.2.1, q_5.2.2.2.2.2.2.1, q_5.2.2.2.2.2.2.2.1, q_5.2.2.2.2.2.2.2.2)))))
set_option maxHeartbeats 4000000 in
set_option maxRecDepth 100000 in
theorem s_X4_sentencesTakenIfGiven (l : Launch) (g : bwG) (ah ah_court ah_pad ah_history ah_slots ah_seen ah_plain ah_trial ah_court_settings ah_court_eyes ah_court_favours ah_court_numbers ah_court_pauses ah_seen_words ah_seen_left ah_plain_words ah_plain_left : Nat) (vh_court_bows : Int32) (vh_court_given : Int32) (vh_court_taken : Int32) (vh_court_settings : Nat → Int32) (vh_court_eyes : Nat → Int32) (vh_court_numbers : Nat → Int32) (vh_court_pauses : Nat → Int32) (vh_seen_groups : Int32) (vh_seen_kept : Int32) (vh_seen_flourishes : Int32) (vh_seen_longGroups : Int32) (vh_seen_reason : Int32) (vh_seen_sentences : Int32) (vh_seen_words : Nat → Int32) (vh_seen_left : Nat → Int32) (vh_plain_groups : Int32) (vh_plain_kept : Int32) (vh_plain_flourishes : Int32) (vh_plain_longGroups : Int32) (vh_plain_reason : Int32) (vh_plain_sentences : Int32) (vh_plain_words : Nat → Int32) (vh_plain_left : Nat → Int32) (p0 : Int32) (res : Int32 × (Int32) × (Int32) × (Int32) × (Int32) × (Int32) × (Int32) × (Nat → Int32) × (Nat → Int32) × (Int32) × (Int32) × (Int32) × (Int32) × (Int32) × (Int32) × (Nat → Int32) × (Nat → Int32)) (hf : f_X4_sentencesTakenIfGiven vh_court_bows vh_court_settings vh_court_eyes vh_court_numbers vh_court_pauses vh_seen_groups vh_seen_kept vh_seen_flourishes vh_seen_longGroups vh_seen_reason vh_seen_sentences vh_seen_words vh_seen_left vh_plain_groups vh_plain_kept vh_plain_flourishes vh_plain_longGroups vh_plain_reason vh_plain_sentences vh_plain_words vh_plain_left p0 = some res) : bwS l g yX4_sentencesTakenIfGiven cX4_sentencesTakenIfGiven 2 (some .int) ({ frames := 5, cells := 0, slots := 0, locals := 112 } : Room) [.ref ah, .int p0] ([(ah, .inr (4, [.ref ah_court, .ref ah_pad, .ref ah_history, .ref ah_slots, .ref ah_seen, .ref ah_plain, .ref ah_trial])), (ah_court, .inr (0, [.ref ah_court_settings, .ref ah_court_eyes, .ref ah_court_favours, .ref ah_court_numbers, .ref ah_court_pauses, .int vh_court_bows, .int vh_court_given, .int vh_court_taken])), (ah_court_settings, .inl (g.2.1, 3, .inl vh_court_settings)), (ah_court_eyes, .inl (g.2.1, 6, .inl vh_court_eyes)), (ah_court_numbers, .inl (g.2.1, 24, .inl vh_court_numbers)), (ah_court_pauses, .inl (g.2.1, 24, .inl vh_court_pauses)), (ah_seen, .inr (3, [.ref ah_seen_words, .int vh_seen_groups, .ref ah_seen_left, .int vh_seen_kept, .int vh_seen_flourishes, .int vh_seen_longGroups, .int vh_seen_reason, .int vh_seen_sentences])), (ah_seen_words, .inl (g.2.1, 24, .inl vh_seen_words)), (ah_seen_left, .inl (g.2.1, 24, .inl vh_seen_left)), (ah_plain, .inr (3, [.ref ah_plain_words, .int vh_plain_groups, .ref ah_plain_left, .int vh_plain_kept, .int vh_plain_flourishes, .int vh_plain_longGroups, .int vh_plain_reason, .int vh_plain_sentences])), (ah_plain_words, .inl (g.2.1, 24, .inl vh_plain_words)), (ah_plain_left, .inl (g.2.1, 24, .inl vh_plain_left))]) (fun r w => r = some (.int res.1) ∧ w = [(ah, .inr (4, [.ref ah_court, .ref ah_pad, .ref ah_history, .ref ah_slots, .ref ah_seen, .ref ah_plain, .ref ah_trial])), (ah_court, .inr (0, [.ref ah_court_settings, .ref ah_court_eyes, .ref ah_court_favours, .ref ah_court_numbers, .ref ah_court_pauses, .int vh_court_bows, .int vh_court_given, .int vh_court_taken])), (ah_court_settings, .inl (g.2.1, 3, .inl vh_court_settings)), (ah_court_eyes, .inl (g.2.1, 6, .inl vh_court_eyes)), (ah_court_numbers, .inl (g.2.1, 24, .inl vh_court_numbers)), (ah_court_pauses, .inl (g.2.1, 24, .inl vh_court_pauses)), (ah_seen, .inr (3, [.ref ah_seen_words, .int res.2.1, .ref ah_seen_left, .int res.2.2.1, .int res.2.2.2.1, .int res.2.2.2.2.1, .int res.2.2.2.2.2.1, .int res.2.2.2.2.2.2.1])), (ah_seen_words, .inl (g.2.1, 24, .inl res.2.2.2.2.2.2.2.1)), (ah_seen_left, .inl (g.2.1, 24, .inl res.2.2.2.2.2.2.2.2.1)), (ah_plain, .inr (3, [.ref ah_plain_words, .int res.2.2.2.2.2.2.2.2.2.1, .ref ah_plain_left, .int res.2.2.2.2.2.2.2.2.2.2.1, .int res.2.2.2.2.2.2.2.2.2.2.2.1, .int res.2.2.2.2.2.2.2.2.2.2.2.2.1, .int res.2.2.2.2.2.2.2.2.2.2.2.2.2.1, .int res.2.2.2.2.2.2.2.2.2.2.2.2.2.2.1])), (ah_plain_words, .inl (g.2.1, 24, .inl res.2.2.2.2.2.2.2.2.2.2.2.2.2.2.2.1)), (ah_plain_left, .inl (g.2.1, 24, .inl res.2.2.2.2.2.2.2.2.2.2.2.2.2.2.2.2))]) := by
  refine bwS_of (by decide) (Nat.le_of_ble_eq_true rfl) ?_
  unfold f_X4_sentencesTakenIfGiven at hf
  show bwR l g cX4_sentencesTakenIfGiven 2 RX4 "sentencesTakenIfGiven" (some .int) ({ frames := 5, cells := 0, slots := 0, locals := 112 } : Room) bwT (bwZ g (fun r w => r = some (.int res.1) ∧ w = [(ah, .inr (4, [.ref ah_court, .ref ah_pad, .ref ah_history, .ref ah_slots, .ref ah_seen, .ref ah_plain, .ref ah_trial])), (ah_court, .inr (0, [.ref ah_court_settings, .ref ah_court_eyes, .ref ah_court_favours, .ref ah_court_numbers, .ref ah_court_pauses, .int vh_court_bows, .int vh_court_given, .int vh_court_taken])), (ah_court_settings, .inl (g.2.1, 3, .inl vh_court_settings)), (ah_court_eyes, .inl (g.2.1, 6, .inl vh_court_eyes)), (ah_court_numbers, .inl (g.2.1, 24, .inl vh_court_numbers)), (ah_court_pauses, .inl (g.2.1, 24, .inl vh_court_pauses)), (ah_seen, .inr (3, [.ref ah_seen_words, .int res.2.1, .ref ah_seen_left, .int res.2.2.1, .int res.2.2.2.1, .int res.2.2.2.2.1, .int res.2.2.2.2.2.1, .int res.2.2.2.2.2.2.1])), (ah_seen_words, .inl (g.2.1, 24, .inl res.2.2.2.2.2.2.2.1)), (ah_seen_left, .inl (g.2.1, 24, .inl res.2.2.2.2.2.2.2.2.1)), (ah_plain, .inr (3, [.ref ah_plain_words, .int res.2.2.2.2.2.2.2.2.2.1, .ref ah_plain_left, .int res.2.2.2.2.2.2.2.2.2.2.1, .int res.2.2.2.2.2.2.2.2.2.2.2.1, .int res.2.2.2.2.2.2.2.2.2.2.2.2.1, .int res.2.2.2.2.2.2.2.2.2.2.2.2.2.1, .int res.2.2.2.2.2.2.2.2.2.2.2.2.2.2.1])), (ah_plain_words, .inl (g.2.1, 24, .inl res.2.2.2.2.2.2.2.2.2.2.2.2.2.2.2.1)), (ah_plain_left, .inl (g.2.1, 24, .inl res.2.2.2.2.2.2.2.2.2.2.2.2.2.2.2.2))]) 0 0) 0 [(0, .ref ah), (1, .int p0)] [] ([(ah, .inr (4, [.ref ah_court, .ref ah_pad, .ref ah_history, .ref ah_slots, .ref ah_seen, .ref ah_plain, .ref ah_trial])), (ah_court, .inr (0, [.ref ah_court_settings, .ref ah_court_eyes, .ref ah_court_favours, .ref ah_court_numbers, .ref ah_court_pauses, .int vh_court_bows, .int vh_court_given, .int vh_court_taken])), (ah_court_settings, .inl (g.2.1, 3, .inl vh_court_settings)), (ah_court_eyes, .inl (g.2.1, 6, .inl vh_court_eyes)), (ah_court_numbers, .inl (g.2.1, 24, .inl vh_court_numbers)), (ah_court_pauses, .inl (g.2.1, 24, .inl vh_court_pauses)), (ah_seen, .inr (3, [.ref ah_seen_words, .int vh_seen_groups, .ref ah_seen_left, .int vh_seen_kept, .int vh_seen_flourishes, .int vh_seen_longGroups, .int vh_seen_reason, .int vh_seen_sentences])), (ah_seen_words, .inl (g.2.1, 24, .inl vh_seen_words)), (ah_seen_left, .inl (g.2.1, 24, .inl vh_seen_left)), (ah_plain, .inr (3, [.ref ah_plain_words, .int vh_plain_groups, .ref ah_plain_left, .int vh_plain_kept, .int vh_plain_flourishes, .int vh_plain_longGroups, .int vh_plain_reason, .int vh_plain_sentences])), (ah_plain_words, .inl (g.2.1, 24, .inl vh_plain_words)), (ah_plain_left, .inl (g.2.1, 24, .inl vh_plain_left))]) 0 0
  refine bw_aload_n 0 dX4_sentencesTakenIfGiven_0 rfl rfl ?_
  obtain ⟨q_5, hc_5, hf⟩ := bw_bind hf
  refine bw_callV [] [] [(ah_court_eyes, .inl (g.2.1, 6, .inl vh_court_eyes)), (ah_seen, .inr (3, [.ref ah_seen_words, .int vh_seen_groups, .ref ah_seen_left, .int vh_seen_kept, .int vh_seen_flourishes, .int vh_seen_longGroups, .int vh_seen_reason, .int vh_seen_sentences])), (ah_seen_words, .inl (g.2.1, 24, .inl vh_seen_words)), (ah_seen_left, .inl (g.2.1, 24, .inl vh_seen_left))] 0 4 (s_X4_canBeGiven l g ah ah_court ah_pad ah_history ah_slots ah_seen ah_plain ah_trial ah_court_settings ah_court_eyes ah_court_favours ah_court_numbers ah_court_pauses ah_plain_words ah_plain_left vh_court_bows vh_court_given vh_court_taken vh_court_settings vh_court_numbers vh_court_pauses vh_plain_groups vh_plain_kept vh_plain_flourishes vh_plain_longGroups vh_plain_reason vh_plain_sentences vh_plain_words vh_plain_left  _ hc_5) rfl co_X4_canBeGiven ini_X4 ml_X4_100 im_X4_canBeGiven se_X4_canBeGiven ar_X4_canBeGiven ⟨Nat.le_of_ble_eq_true rfl, Nat.le_of_ble_eq_true rfl⟩ ⟨Nat.le_of_ble_eq_true rfl, Nat.le_of_ble_eq_true rfl⟩ rfl rfl (bw_pick1 12 [0, 1, 2, 4, 5, 9, 10, 11, 3, 6, 7, 8] rfl rfl (by decide)) (Nat.le_of_ble_eq_true rfl) dX4_sentencesTakenIfGiven_1 (fun r w1 hq => ?_)
  obtain ⟨rfl, rfl⟩ := hq
  refine bw_perm (ws1 := [(ah, .inr (4, [.ref ah_court, .ref ah_pad, .ref ah_history, .ref ah_slots, .ref ah_seen, .ref ah_plain, .ref ah_trial])), (ah_court, .inr (0, [.ref ah_court_settings, .ref ah_court_eyes, .ref ah_court_favours, .ref ah_court_numbers, .ref ah_court_pauses, .int vh_court_bows, .int vh_court_given, .int vh_court_taken])), (ah_court_settings, .inl (g.2.1, 3, .inl vh_court_settings)), (ah_court_eyes, .inl (g.2.1, 6, .inl vh_court_eyes)), (ah_court_numbers, .inl (g.2.1, 24, .inl vh_court_numbers)), (ah_court_pauses, .inl (g.2.1, 24, .inl vh_court_pauses)), (ah_seen, .inr (3, [.ref ah_seen_words, .int vh_seen_groups, .ref ah_seen_left, .int vh_seen_kept, .int vh_seen_flourishes, .int vh_seen_longGroups, .int vh_seen_reason, .int vh_seen_sentences])), (ah_seen_words, .inl (g.2.1, 24, .inl vh_seen_words)), (ah_seen_left, .inl (g.2.1, 24, .inl vh_seen_left)), (ah_plain, .inr (3, [.ref ah_plain_words, .int q_5.2.1, .ref ah_plain_left, .int q_5.2.2.1, .int q_5.2.2.2.1, .int q_5.2.2.2.2.1, .int q_5.2.2.2.2.2.1, .int q_5.2.2.2.2.2.2.1])), (ah_plain_words, .inl (g.2.1, 24, .inl q_5.2.2.2.2.2.2.2.1)), (ah_plain_left, .inl (g.2.1, 24, .inl q_5.2.2.2.2.2.2.2.2))]) (bw_pick1 12 [4, 5, 6, 0, 7, 8, 1, 2, 3, 9, 10, 11] rfl rfl (by decide)) ?_
  refine bw_st (st1 := [.int q_5.1]) rfl ?_
  refine bw_if_ne 9 dX4_sentencesTakenIfGiven_4 (by decide) (fun c_6 => ?_) (fun c_6 => ?_)
  · have hf := bw_neg c_6 hf
    refine bw_aload_n 0 dX4_sentencesTakenIfGiven_9 rfl rfl ?_
    refine bw_iload_n 1 dX4_sentencesTakenIfGiven_10 rfl rfl ?_
    obtain ⟨q_7, hc_7, hf⟩ := bw_bind hf
    refine bw_callV [.int p0] [] [(ah_plain, .inr (3, [.ref ah_plain_words, .int q_5.2.1, .ref ah_plain_left, .int q_5.2.2.1, .int q_5.2.2.2.1, .int q_5.2.2.2.2.1, .int q_5.2.2.2.2.2.1, .int q_5.2.2.2.2.2.2.1])), (ah_plain_words, .inl (g.2.1, 24, .inl q_5.2.2.2.2.2.2.2.1)), (ah_plain_left, .inl (g.2.1, 24, .inl q_5.2.2.2.2.2.2.2.2))] 0 4 (s_X4_lookThroughEyesOf l g ah ah_court ah_pad ah_history ah_slots ah_seen ah_plain ah_trial ah_court_settings ah_court_eyes ah_court_favours ah_court_numbers ah_court_pauses ah_seen_words ah_seen_left vh_court_bows vh_court_given vh_court_taken vh_court_settings vh_court_eyes vh_court_numbers vh_court_pauses vh_seen_groups vh_seen_kept vh_seen_flourishes vh_seen_longGroups vh_seen_reason vh_seen_sentences vh_seen_words vh_seen_left p0 _ hc_7) rfl co_X4_lookThroughEyesOf ini_X4 ml_X4_104 im_X4_lookThroughEyesOf se_X4_lookThroughEyesOf ar_X4_lookThroughEyesOf ⟨Nat.le_of_ble_eq_true rfl, Nat.le_of_ble_eq_true rfl⟩ ⟨Nat.le_of_ble_eq_true rfl, Nat.le_of_ble_eq_true rfl⟩ rfl rfl (bw_pick1 12 [0, 1, 2, 3, 4, 5, 6, 7, 8, 9, 10, 11] rfl rfl (by decide)) (Nat.le_of_ble_eq_true rfl) dX4_sentencesTakenIfGiven_11 (fun r w1 hq => ?_)
    obtain ⟨rfl, rfl⟩ := hq
    refine bw_perm (ws1 := [(ah, .inr (4, [.ref ah_court, .ref ah_pad, .ref ah_history, .ref ah_slots, .ref ah_seen, .ref ah_plain, .ref ah_trial])), (ah_court, .inr (0, [.ref ah_court_settings, .ref ah_court_eyes, .ref ah_court_favours, .ref ah_court_numbers, .ref ah_court_pauses, .int vh_court_bows, .int vh_court_given, .int vh_court_taken])), (ah_court_settings, .inl (g.2.1, 3, .inl vh_court_settings)), (ah_court_eyes, .inl (g.2.1, 6, .inl vh_court_eyes)), (ah_court_numbers, .inl (g.2.1, 24, .inl vh_court_numbers)), (ah_court_pauses, .inl (g.2.1, 24, .inl vh_court_pauses)), (ah_seen, .inr (3, [.ref ah_seen_words, .int q_7.1, .ref ah_seen_left, .int q_7.2.1, .int q_7.2.2.1, .int q_7.2.2.2.1, .int q_7.2.2.2.2.1, .int q_7.2.2.2.2.2.1])), (ah_seen_words, .inl (g.2.1, 24, .inl q_7.2.2.2.2.2.2.1)), (ah_seen_left, .inl (g.2.1, 24, .inl q_7.2.2.2.2.2.2.2)), (ah_plain, .inr (3, [.ref ah_plain_words, .int q_5.2.1, .ref ah_plain_left, .int q_5.2.2.1, .int q_5.2.2.2.1, .int q_5.2.2.2.2.1, .int q_5.2.2.2.2.2.1, .int q_5.2.2.2.2.2.2.1])), (ah_plain_words, .inl (g.2.1, 24, .inl q_5.2.2.2.2.2.2.2.1)), (ah_plain_left, .inl (g.2.1, 24, .inl q_5.2.2.2.2.2.2.2.2))]) (bw_pick1 12 [3, 4, 5, 6, 7, 8, 9, 10, 11, 0, 1, 2] rfl rfl (by decide)) ?_
    refine bw_st (st1 := []) rfl ?_
    refine bw_aload_n 0 dX4_sentencesTakenIfGiven_14 rfl rfl ?_
    refine bw_iload_n 1 dX4_sentencesTakenIfGiven_15 rfl rfl ?_
    obtain ⟨q_8, hc_8, hf⟩ := bw_bind hf
    refine bw_callV [.int p0] [] [(ah_court, .inr (0, [.ref ah_court_settings, .ref ah_court_eyes, .ref ah_court_favours, .ref ah_court_numbers, .ref ah_court_pauses, .int vh_court_bows, .int vh_court_given, .int vh_court_taken])), (ah_court_settings, .inl (g.2.1, 3, .inl vh_court_settings)), (ah_court_eyes, .inl (g.2.1, 6, .inl vh_court_eyes)), (ah_court_numbers, .inl (g.2.1, 24, .inl vh_court_numbers)), (ah_court_pauses, .inl (g.2.1, 24, .inl vh_court_pauses)), (ah_seen_words, .inl (g.2.1, 24, .inl q_7.2.2.2.2.2.2.1)), (ah_plain, .inr (3, [.ref ah_plain_words, .int q_5.2.1, .ref ah_plain_left, .int q_5.2.2.1, .int q_5.2.2.2.1, .int q_5.2.2.2.2.1, .int q_5.2.2.2.2.2.1, .int q_5.2.2.2.2.2.2.1])), (ah_plain_words, .inl (g.2.1, 24, .inl q_5.2.2.2.2.2.2.2.1)), (ah_plain_left, .inl (g.2.1, 24, .inl q_5.2.2.2.2.2.2.2.2))] 0 4 (s_X4_sentencesSeenFor l g ah ah_court ah_pad ah_history ah_slots ah_seen ah_plain ah_trial ah_seen_words ah_seen_left q_7.1 q_7.2.1 q_7.2.2.1 q_7.2.2.2.1 q_7.2.2.2.2.1 q_7.2.2.2.2.2.1 q_7.2.2.2.2.2.2.2 p0 _ hc_8) rfl co_X4_sentencesSeenFor ini_X4 ml_X4_108 im_X4_sentencesSeenFor se_X4_sentencesSeenFor ar_X4_sentencesSeenFor ⟨Nat.le_of_ble_eq_true rfl, Nat.le_of_ble_eq_true rfl⟩ ⟨Nat.le_of_ble_eq_true rfl, Nat.le_of_ble_eq_true rfl⟩ rfl rfl (bw_pick1 12 [0, 6, 8, 1, 2, 3, 4, 5, 7, 9, 10, 11] rfl rfl (by decide)) (Nat.le_of_ble_eq_true rfl) dX4_sentencesTakenIfGiven_16 (fun r w1 hq => ?_)
    obtain ⟨rfl, rfl⟩ := hq
    refine bw_perm (ws1 := [(ah, .inr (4, [.ref ah_court, .ref ah_pad, .ref ah_history, .ref ah_slots, .ref ah_seen, .ref ah_plain, .ref ah_trial])), (ah_court, .inr (0, [.ref ah_court_settings, .ref ah_court_eyes, .ref ah_court_favours, .ref ah_court_numbers, .ref ah_court_pauses, .int vh_court_bows, .int vh_court_given, .int vh_court_taken])), (ah_court_settings, .inl (g.2.1, 3, .inl vh_court_settings)), (ah_court_eyes, .inl (g.2.1, 6, .inl vh_court_eyes)), (ah_court_numbers, .inl (g.2.1, 24, .inl vh_court_numbers)), (ah_court_pauses, .inl (g.2.1, 24, .inl vh_court_pauses)), (ah_seen, .inr (3, [.ref ah_seen_words, .int q_7.1, .ref ah_seen_left, .int q_7.2.1, .int q_7.2.2.1, .int q_7.2.2.2.1, .int q_7.2.2.2.2.1, .int q_7.2.2.2.2.2.1])), (ah_seen_words, .inl (g.2.1, 24, .inl q_7.2.2.2.2.2.2.1)), (ah_seen_left, .inl (g.2.1, 24, .inl q_7.2.2.2.2.2.2.2)), (ah_plain, .inr (3, [.ref ah_plain_words, .int q_5.2.1, .ref ah_plain_left, .int q_5.2.2.1, .int q_5.2.2.2.1, .int q_5.2.2.2.2.1, .int q_5.2.2.2.2.2.1, .int q_5.2.2.2.2.2.2.1])), (ah_plain_words, .inl (g.2.1, 24, .inl q_5.2.2.2.2.2.2.2.1)), (ah_plain_left, .inl (g.2.1, 24, .inl q_5.2.2.2.2.2.2.2.2))]) (bw_pick1 12 [9, 0, 1, 2, 3, 4, 10, 5, 11, 6, 7, 8] rfl rfl (by decide)) ?_
    refine bw_st (st1 := [.int q_8]) rfl ?_
    cases Option.some.inj hf
    exact bw_ret rfl rfl (Nat.le_of_ble_eq_true rfl) (Nat.le_of_ble_eq_true rfl) dX4_sentencesTakenIfGiven_19 ⟨rfl, rfl⟩
  · have hf := bw_pos c_6 hf
    refine bw_iconst 0 dX4_sentencesTakenIfGiven_7 (by decide) ?_
    cases Option.some.inj hf
    exact bw_ret rfl rfl (Nat.le_of_ble_eq_true rfl) (Nat.le_of_ble_eq_true rfl) dX4_sentencesTakenIfGiven_8 ⟨rfl, rfl⟩
theorem ar_X4_courtier : yX4_courtier.cls ≠ "java/lang/invoke/MethodHandle" ∧ yX4_courtier.cls ≠ "java/lang/invoke/VarHandle" ∧ (parseMethodDescriptor yX4_courtier.desc).map (fun d => d.parameters.length) = some 2 := ⟨by decide, by decide, by decide +kernel⟩
def f_X4_courtier (vh_court_bows : Int32) (vh_court_settings : Nat → Int32) (vh_court_eyes : Nat → Int32) (vh_court_favours : Nat → Int32) (vh_court_numbers : Nat → Int32) (vh_court_pauses : Nat → Int32) (vh_seen_groups : Int32) (vh_seen_kept : Int32) (vh_seen_flourishes : Int32) (vh_seen_longGroups : Int32) (vh_seen_reason : Int32) (vh_seen_sentences : Int32) (vh_seen_words : Nat → Int32) (vh_seen_left : Nat → Int32) (vh_plain_groups : Int32) (vh_plain_kept : Int32) (vh_plain_flourishes : Int32) (vh_plain_longGroups : Int32) (vh_plain_reason : Int32) (vh_plain_sentences : Int32) (vh_plain_words : Nat → Int32) (vh_plain_left : Nat → Int32) (p0 : Int32) (p1 : Int32) : Option (Int32 × (Int32) × (Int32) × (Int32) × (Int32) × (Int32) × (Int32) × (Nat → Int32) × (Nat → Int32) × (Int32) × (Int32) × (Int32) × (Int32) × (Int32) × (Int32) × (Nat → Int32) × (Nat → Int32)) := ((f_X4_isCourtier p0).bind fun q_11 => (if q_11 = 0 then some ((-1000001), vh_seen_groups, vh_seen_kept, vh_seen_flourishes, vh_seen_longGroups, vh_seen_reason, vh_seen_sentences, vh_seen_words, vh_seen_left, vh_plain_groups, vh_plain_kept, vh_plain_flourishes, vh_plain_longGroups, vh_plain_reason, vh_plain_sentences, vh_plain_words, vh_plain_left) else (if p1 = 0 then (if bw_in p0 6 then some ((vh_court_eyes (Int32.toNatClampNeg p0)), vh_seen_groups, vh_seen_kept, vh_seen_flourishes, vh_seen_longGroups, vh_seen_reason, vh_seen_sentences, vh_seen_words, vh_seen_left, vh_plain_groups, vh_plain_kept, vh_plain_flourishes, vh_plain_longGroups, vh_plain_reason, vh_plain_sentences, vh_plain_words, vh_plain_left) else none) else (if p1 = 1 then ((f_X4_favoursForGiver vh_court_favours p0).bind fun q_16 => some (q_16, vh_seen_groups, vh_seen_kept, vh_seen_flourishes, vh_seen_longGroups, vh_seen_reason, vh_seen_sentences, vh_seen_words, vh_seen_left, vh_plain_groups, vh_plain_kept, vh_plain_flourishes, vh_plain_longGroups, vh_plain_reason, vh_plain_sentences, vh_plain_words, vh_plain_left)) else (if p1 = 2 then ((f_X4_favoursOfCourtier vh_court_favours p0).bind fun q_18 => some (q_18, vh_seen_groups, vh_seen_kept, vh_seen_flourishes, vh_seen_longGroups, vh_seen_reason, vh_seen_sentences, vh_seen_words, vh_seen_left, vh_plain_groups, vh_plain_kept, vh_plain_flourishes, vh_plain_longGroups, vh_plain_reason, vh_plain_sentences, vh_plain_words, vh_plain_left)) else (if p1 = 3 then ((f_X4_sentencesTakenIfGiven vh_court_bows vh_court_settings vh_court_eyes vh_court_numbers vh_court_pauses vh_seen_groups vh_seen_kept vh_seen_flourishes vh_seen_longGroups vh_seen_reason vh_seen_sentences vh_seen_words vh_seen_left vh_plain_groups vh_plain_kept vh_plain_flourishes vh_plain_longGroups vh_plain_reason vh_plain_sentences vh_plain_words vh_plain_left p0).bind fun q_20 => some (q_20.1, q_20.2.1, q_20.2.2.1, q_20.2.2.2.1, q_20.2.2.2.2.1, q_20.2.2.2.2.2.1, q_20.2.2.2.2.2.2.1, q_20.2.2.2.2.2.2.2.1, q_20.2.2.2.2.2.2.2.2.1, q_20.2.2.2.2.2.2.2.2.2.1, q_20.2.2.2.2.2.2.2.2.2.2.1, q_20.2.2.2.2.2.2.2.2.2.2.2.1, q_20.2.2.2.2.2.2.2.2.2.2.2.2.1, q_20.2.2.2.2.2.2.2.2.2.2.2.2.2.1, q_20.2.2.2.2.2.2.2.2.2.2.2.2.2.2.1, q_20.2.2.2.2.2.2.2.2.2.2.2.2.2.2.2.1, q_20.2.2.2.2.2.2.2.2.2.2.2.2.2.2.2.2)) else some ((-1000002), vh_seen_groups, vh_seen_kept, vh_seen_flourishes, vh_seen_longGroups, vh_seen_reason, vh_seen_sentences, vh_seen_words, vh_seen_left, vh_plain_groups, vh_plain_kept, vh_plain_flourishes, vh_plain_longGroups, vh_plain_reason, vh_plain_sentences, vh_plain_words, vh_plain_left)))))))
set_option maxHeartbeats 4000000 in
set_option maxRecDepth 100000 in
theorem s_X4_courtier (l : Launch) (g : bwG) (ah ah_court ah_pad ah_history ah_slots ah_seen ah_plain ah_trial ah_court_settings ah_court_eyes ah_court_favours ah_court_numbers ah_court_pauses ah_seen_words ah_seen_left ah_plain_words ah_plain_left : Nat) (vh_court_bows : Int32) (vh_court_given : Int32) (vh_court_taken : Int32) (vh_court_settings : Nat → Int32) (vh_court_eyes : Nat → Int32) (vh_court_favours : Nat → Int32) (vh_court_numbers : Nat → Int32) (vh_court_pauses : Nat → Int32) (vh_seen_groups : Int32) (vh_seen_kept : Int32) (vh_seen_flourishes : Int32) (vh_seen_longGroups : Int32) (vh_seen_reason : Int32) (vh_seen_sentences : Int32) (vh_seen_words : Nat → Int32) (vh_seen_left : Nat → Int32) (vh_plain_groups : Int32) (vh_plain_kept : Int32) (vh_plain_flourishes : Int32) (vh_plain_longGroups : Int32) (vh_plain_reason : Int32) (vh_plain_sentences : Int32) (vh_plain_words : Nat → Int32) (vh_plain_left : Nat → Int32) (p0 : Int32) (p1 : Int32) (res : Int32 × (Int32) × (Int32) × (Int32) × (Int32) × (Int32) × (Int32) × (Nat → Int32) × (Nat → Int32) × (Int32) × (Int32) × (Int32) × (Int32) × (Int32) × (Int32) × (Nat → Int32) × (Nat → Int32)) (hf : f_X4_courtier vh_court_bows vh_court_settings vh_court_eyes vh_court_favours vh_court_numbers vh_court_pauses vh_seen_groups vh_seen_kept vh_seen_flourishes vh_seen_longGroups vh_seen_reason vh_seen_sentences vh_seen_words vh_seen_left vh_plain_groups vh_plain_kept vh_plain_flourishes vh_plain_longGroups vh_plain_reason vh_plain_sentences vh_plain_words vh_plain_left p0 p1 = some res) : bwS l g yX4_courtier cX4_courtier 3 (some .int) ({ frames := 6, cells := 0, slots := 0, locals := 133 } : Room) [.ref ah, .int p0, .int p1] ([(ah, .inr (4, [.ref ah_court, .ref ah_pad, .ref ah_history, .ref ah_slots, .ref ah_seen, .ref ah_plain, .ref ah_trial])), (ah_court, .inr (0, [.ref ah_court_settings, .ref ah_court_eyes, .ref ah_court_favours, .ref ah_court_numbers, .ref ah_court_pauses, .int vh_court_bows, .int vh_court_given, .int vh_court_taken])), (ah_court_settings, .inl (g.2.1, 3, .inl vh_court_settings)), (ah_court_eyes, .inl (g.2.1, 6, .inl vh_court_eyes)), (ah_court_favours, .inl (g.2.1, 36, .inl vh_court_favours)), (ah_court_numbers, .inl (g.2.1, 24, .inl vh_court_numbers)), (ah_court_pauses, .inl (g.2.1, 24, .inl vh_court_pauses)), (ah_seen, .inr (3, [.ref ah_seen_words, .int vh_seen_groups, .ref ah_seen_left, .int vh_seen_kept, .int vh_seen_flourishes, .int vh_seen_longGroups, .int vh_seen_reason, .int vh_seen_sentences])), (ah_seen_words, .inl (g.2.1, 24, .inl vh_seen_words)), (ah_seen_left, .inl (g.2.1, 24, .inl vh_seen_left)), (ah_plain, .inr (3, [.ref ah_plain_words, .int vh_plain_groups, .ref ah_plain_left, .int vh_plain_kept, .int vh_plain_flourishes, .int vh_plain_longGroups, .int vh_plain_reason, .int vh_plain_sentences])), (ah_plain_words, .inl (g.2.1, 24, .inl vh_plain_words)), (ah_plain_left, .inl (g.2.1, 24, .inl vh_plain_left))]) (fun r w => r = some (.int res.1) ∧ w = [(ah, .inr (4, [.ref ah_court, .ref ah_pad, .ref ah_history, .ref ah_slots, .ref ah_seen, .ref ah_plain, .ref ah_trial])), (ah_court, .inr (0, [.ref ah_court_settings, .ref ah_court_eyes, .ref ah_court_favours, .ref ah_court_numbers, .ref ah_court_pauses, .int vh_court_bows, .int vh_court_given, .int vh_court_taken])), (ah_court_settings, .inl (g.2.1, 3, .inl vh_court_settings)), (ah_court_eyes, .inl (g.2.1, 6, .inl vh_court_eyes)), (ah_court_favours, .inl (g.2.1, 36, .inl vh_court_favours)), (ah_court_numbers, .inl (g.2.1, 24, .inl vh_court_numbers)), (ah_court_pauses, .inl (g.2.1, 24, .inl vh_court_pauses)), (ah_seen, .inr (3, [.ref ah_seen_words, .int res.2.1, .ref ah_seen_left, .int res.2.2.1, .int res.2.2.2.1, .int res.2.2.2.2.1, .int res.2.2.2.2.2.1, .int res.2.2.2.2.2.2.1])), (ah_seen_words, .inl (g.2.1, 24, .inl res.2.2.2.2.2.2.2.1)), (ah_seen_left, .inl (g.2.1, 24, .inl res.2.2.2.2.2.2.2.2.1)), (ah_plain, .inr (3, [.ref ah_plain_words, .int res.2.2.2.2.2.2.2.2.2.1, .ref ah_plain_left, .int res.2.2.2.2.2.2.2.2.2.2.1, .int res.2.2.2.2.2.2.2.2.2.2.2.1, .int res.2.2.2.2.2.2.2.2.2.2.2.2.1, .int res.2.2.2.2.2.2.2.2.2.2.2.2.2.1, .int res.2.2.2.2.2.2.2.2.2.2.2.2.2.2.1])), (ah_plain_words, .inl (g.2.1, 24, .inl res.2.2.2.2.2.2.2.2.2.2.2.2.2.2.2.1)), (ah_plain_left, .inl (g.2.1, 24, .inl res.2.2.2.2.2.2.2.2.2.2.2.2.2.2.2.2))]) := by
  refine bwS_of (by decide) (Nat.le_of_ble_eq_true rfl) ?_
  unfold f_X4_courtier at hf
  show bwR l g cX4_courtier 3 RX4 "courtier" (some .int) ({ frames := 6, cells := 0, slots := 0, locals := 133 } : Room) bwT (bwZ g (fun r w => r = some (.int res.1) ∧ w = [(ah, .inr (4, [.ref ah_court, .ref ah_pad, .ref ah_history, .ref ah_slots, .ref ah_seen, .ref ah_plain, .ref ah_trial])), (ah_court, .inr (0, [.ref ah_court_settings, .ref ah_court_eyes, .ref ah_court_favours, .ref ah_court_numbers, .ref ah_court_pauses, .int vh_court_bows, .int vh_court_given, .int vh_court_taken])), (ah_court_settings, .inl (g.2.1, 3, .inl vh_court_settings)), (ah_court_eyes, .inl (g.2.1, 6, .inl vh_court_eyes)), (ah_court_favours, .inl (g.2.1, 36, .inl vh_court_favours)), (ah_court_numbers, .inl (g.2.1, 24, .inl vh_court_numbers)), (ah_court_pauses, .inl (g.2.1, 24, .inl vh_court_pauses)), (ah_seen, .inr (3, [.ref ah_seen_words, .int res.2.1, .ref ah_seen_left, .int res.2.2.1, .int res.2.2.2.1, .int res.2.2.2.2.1, .int res.2.2.2.2.2.1, .int res.2.2.2.2.2.2.1])), (ah_seen_words, .inl (g.2.1, 24, .inl res.2.2.2.2.2.2.2.1)), (ah_seen_left, .inl (g.2.1, 24, .inl res.2.2.2.2.2.2.2.2.1)), (ah_plain, .inr (3, [.ref ah_plain_words, .int res.2.2.2.2.2.2.2.2.2.1, .ref ah_plain_left, .int res.2.2.2.2.2.2.2.2.2.2.1, .int res.2.2.2.2.2.2.2.2.2.2.2.1, .int res.2.2.2.2.2.2.2.2.2.2.2.2.1, .int res.2.2.2.2.2.2.2.2.2.2.2.2.2.1, .int res.2.2.2.2.2.2.2.2.2.2.2.2.2.2.1])), (ah_plain_words, .inl (g.2.1, 24, .inl res.2.2.2.2.2.2.2.2.2.2.2.2.2.2.2.1)), (ah_plain_left, .inl (g.2.1, 24, .inl res.2.2.2.2.2.2.2.2.2.2.2.2.2.2.2.2))]) 0 0) 0 [(0, .ref ah), (1, .int p0), (2, .int p1)] [] ([(ah, .inr (4, [.ref ah_court, .ref ah_pad, .ref ah_history, .ref ah_slots, .ref ah_seen, .ref ah_plain, .ref ah_trial])), (ah_court, .inr (0, [.ref ah_court_settings, .ref ah_court_eyes, .ref ah_court_favours, .ref ah_court_numbers, .ref ah_court_pauses, .int vh_court_bows, .int vh_court_given, .int vh_court_taken])), (ah_court_settings, .inl (g.2.1, 3, .inl vh_court_settings)), (ah_court_eyes, .inl (g.2.1, 6, .inl vh_court_eyes)), (ah_court_favours, .inl (g.2.1, 36, .inl vh_court_favours)), (ah_court_numbers, .inl (g.2.1, 24, .inl vh_court_numbers)), (ah_court_pauses, .inl (g.2.1, 24, .inl vh_court_pauses)), (ah_seen, .inr (3, [.ref ah_seen_words, .int vh_seen_groups, .ref ah_seen_left, .int vh_seen_kept, .int vh_seen_flourishes, .int vh_seen_longGroups, .int vh_seen_reason, .int vh_seen_sentences])), (ah_seen_words, .inl (g.2.1, 24, .inl vh_seen_words)), (ah_seen_left, .inl (g.2.1, 24, .inl vh_seen_left)), (ah_plain, .inr (3, [.ref ah_plain_words, .int vh_plain_groups, .ref ah_plain_left, .int vh_plain_kept, .int vh_plain_flourishes, .int vh_plain_longGroups, .int vh_plain_reason, .int vh_plain_sentences])), (ah_plain_words, .inl (g.2.1, 24, .inl vh_plain_words)), (ah_plain_left, .inl (g.2.1, 24, .inl vh_plain_left))]) 0 0
  refine bw_iload_n 1 dX4_courtier_0 rfl rfl ?_
  obtain ⟨q_11, hc_11, hf⟩ := bw_bind hf
  refine bw_callS [.int p0] [] [(ah, .inr (4, [.ref ah_court, .ref ah_pad, .ref ah_history, .ref ah_slots, .ref ah_seen, .ref ah_plain, .ref ah_trial])), (ah_court, .inr (0, [.ref ah_court_settings, .ref ah_court_eyes, .ref ah_court_favours, .ref ah_court_numbers, .ref ah_court_pauses, .int vh_court_bows, .int vh_court_given, .int vh_court_taken])), (ah_court_settings, .inl (g.2.1, 3, .inl vh_court_settings)), (ah_court_eyes, .inl (g.2.1, 6, .inl vh_court_eyes)), (ah_court_favours, .inl (g.2.1, 36, .inl vh_court_favours)), (ah_court_numbers, .inl (g.2.1, 24, .inl vh_court_numbers)), (ah_court_pauses, .inl (g.2.1, 24, .inl vh_court_pauses)), (ah_seen, .inr (3, [.ref ah_seen_words, .int vh_seen_groups, .ref ah_seen_left, .int vh_seen_kept, .int vh_seen_flourishes, .int vh_seen_longGroups, .int vh_seen_reason, .int vh_seen_sentences])), (ah_seen_words, .inl (g.2.1, 24, .inl vh_seen_words)), (ah_seen_left, .inl (g.2.1, 24, .inl vh_seen_left)), (ah_plain, .inr (3, [.ref ah_plain_words, .int vh_plain_groups, .ref ah_plain_left, .int vh_plain_kept, .int vh_plain_flourishes, .int vh_plain_longGroups, .int vh_plain_reason, .int vh_plain_sentences])), (ah_plain_words, .inl (g.2.1, 24, .inl vh_plain_words)), (ah_plain_left, .inl (g.2.1, 24, .inl vh_plain_left))] (s_X4_isCourtier l g   p0 _ hc_11) rfl co_X4_isCourtier ini_X4 ml_X4_56 st_X4_isCourtier ar_X4_isCourtier ⟨Nat.le_of_ble_eq_true rfl, Nat.le_of_ble_eq_true rfl⟩ ⟨Nat.le_of_ble_eq_true rfl, Nat.le_of_ble_eq_true rfl⟩ (bw_pick1 13 [0, 1, 2, 3, 4, 5, 6, 7, 8, 9, 10, 11, 12] rfl rfl (by decide)) (Nat.le_of_ble_eq_true rfl) dX4_courtier_1 (fun r w1 hq => ?_)
  obtain ⟨rfl, rfl⟩ := hq
  refine bw_perm (ws1 := [(ah, .inr (4, [.ref ah_court, .ref ah_pad, .ref ah_history, .ref ah_slots, .ref ah_seen, .ref ah_plain, .ref ah_trial])), (ah_court, .inr (0, [.ref ah_court_settings, .ref ah_court_eyes, .ref ah_court_favours, .ref ah_court_numbers, .ref ah_court_pauses, .int vh_court_bows, .int vh_court_given, .int vh_court_taken])), (ah_court_settings, .inl (g.2.1, 3, .inl vh_court_settings)), (ah_court_eyes, .inl (g.2.1, 6, .inl vh_court_eyes)), (ah_court_favours, .inl (g.2.1, 36, .inl vh_court_favours)), (ah_court_numbers, .inl (g.2.1, 24, .inl vh_court_numbers)), (ah_court_pauses, .inl (g.2.1, 24, .inl vh_court_pauses)), (ah_seen, .inr (3, [.ref ah_seen_words, .int vh_seen_groups, .ref ah_seen_left, .int vh_seen_kept, .int vh_seen_flourishes, .int vh_seen_longGroups, .int vh_seen_reason, .int vh_seen_sentences])), (ah_seen_words, .inl (g.2.1, 24, .inl vh_seen_words)), (ah_seen_left, .inl (g.2.1, 24, .inl vh_seen_left)), (ah_plain, .inr (3, [.ref ah_plain_words, .int vh_plain_groups, .ref ah_plain_left, .int vh_plain_kept, .int vh_plain_flourishes, .int vh_plain_longGroups, .int vh_plain_reason, .int vh_plain_sentences])), (ah_plain_words, .inl (g.2.1, 24, .inl vh_plain_words)), (ah_plain_left, .inl (g.2.1, 24, .inl vh_plain_left))]) (bw_pick1 13 [0, 1, 2, 3, 4, 5, 6, 7, 8, 9, 10, 11, 12] rfl rfl (by decide)) ?_
  refine bw_st (st1 := [.int q_11]) rfl ?_
  refine bw_if_ne 10 dX4_courtier_4 (by decide) (fun c_12 => ?_) (fun c_12 => ?_)
  · have hf := bw_neg c_12 hf
    refine bw_iload_n 2 dX4_courtier_10 rfl rfl ?_
    rcases Decidable.em (p1 = 0) with c_13 | c_13
    · have hf := bw_pos c_13 hf
      refine bw_tableIn (off := 29) 40 dX4_courtier_11 (by rw [c_13]; decide) (by rw [c_13]; decide) (by rw [c_13]; rfl) (by decide) ?_
      refine bw_aload_n 0 dX4_courtier_40 rfl rfl ?_
      refine bw_gf bkX4 0 0 (by decide) fl_X4_10 rfl rfl dX4_courtier_41 ?_
      refine bw_gf bkX0 1 1 (by decide) fl_X4_64 rfl rfl dX4_courtier_44 ?_
      refine bw_iload_n 1 dX4_courtier_47 rfl rfl ?_
      obtain ⟨h_14, hf⟩ := bw_chk hf
      refine bw_iald 3 rfl h_14 dX4_courtier_48 ?_
      cases Option.some.inj hf
      exact bw_ret rfl rfl (Nat.le_of_ble_eq_true rfl) (Nat.le_of_ble_eq_true rfl) dX4_courtier_49 ⟨rfl, rfl⟩
    · have hf := bw_neg c_13 hf
      rcases Decidable.em (p1 = 1) with c_15 | c_15
      · have hf := bw_pos c_15 hf
        refine bw_tableIn (off := 39) 50 dX4_courtier_11 (by rw [c_15]; decide) (by rw [c_15]; decide) (by rw [c_15]; rfl) (by decide) ?_
        refine bw_aload_n 0 dX4_courtier_50 rfl rfl ?_
        refine bw_iload_n 1 dX4_courtier_51 rfl rfl ?_
        obtain ⟨q_16, hc_16, hf⟩ := bw_bind hf
        refine bw_callV [.int p0] [] [(ah_court_settings, .inl (g.2.1, 3, .inl vh_court_settings)), (ah_court_eyes, .inl (g.2.1, 6, .inl vh_court_eyes)), (ah_court_numbers, .inl (g.2.1, 24, .inl vh_court_numbers)), (ah_court_pauses, .inl (g.2.1, 24, .inl vh_court_pauses)), (ah_seen, .inr (3, [.ref ah_seen_words, .int vh_seen_groups, .ref ah_seen_left, .int vh_seen_kept, .int vh_seen_flourishes, .int vh_seen_longGroups, .int vh_seen_reason, .int vh_seen_sentences])), (ah_seen_words, .inl (g.2.1, 24, .inl vh_seen_words)), (ah_seen_left, .inl (g.2.1, 24, .inl vh_seen_left)), (ah_plain, .inr (3, [.ref ah_plain_words, .int vh_plain_groups, .ref ah_plain_left, .int vh_plain_kept, .int vh_plain_flourishes, .int vh_plain_longGroups, .int vh_plain_reason, .int vh_plain_sentences])), (ah_plain_words, .inl (g.2.1, 24, .inl vh_plain_words)), (ah_plain_left, .inl (g.2.1, 24, .inl vh_plain_left))] 0 4 (s_X4_favoursForGiver l g ah ah_court ah_pad ah_history ah_slots ah_seen ah_plain ah_trial ah_court_settings ah_court_eyes ah_court_favours ah_court_numbers ah_court_pauses vh_court_bows vh_court_given vh_court_taken vh_court_favours p0 _ hc_16) rfl co_X4_favoursForGiver ini_X4 ml_X4_164 im_X4_favoursForGiver se_X4_favoursForGiver ar_X4_favoursForGiver ⟨Nat.le_of_ble_eq_true rfl, Nat.le_of_ble_eq_true rfl⟩ ⟨Nat.le_of_ble_eq_true rfl, Nat.le_of_ble_eq_true rfl⟩ rfl rfl (bw_pick1 13 [0, 1, 4, 2, 3, 5, 6, 7, 8, 9, 10, 11, 12] rfl rfl (by decide)) (Nat.le_of_ble_eq_true rfl) dX4_courtier_52 (fun r w1 hq => ?_)
        obtain ⟨rfl, rfl⟩ := hq
        refine bw_perm (ws1 := [(ah, .inr (4, [.ref ah_court, .ref ah_pad, .ref ah_history, .ref ah_slots, .ref ah_seen, .ref ah_plain, .ref ah_trial])), (ah_court, .inr (0, [.ref ah_court_settings, .ref ah_court_eyes, .ref ah_court_favours, .ref ah_court_numbers, .ref ah_court_pauses, .int vh_court_bows, .int vh_court_given, .int vh_court_taken])), (ah_court_settings, .inl (g.2.1, 3, .inl vh_court_settings)), (ah_court_eyes, .inl (g.2.1, 6, .inl vh_court_eyes)), (ah_court_favours, .inl (g.2.1, 36, .inl vh_court_favours)), (ah_court_numbers, .inl (g.2.1, 24, .inl vh_court_numbers)), (ah_court_pauses, .inl (g.2.1, 24, .inl vh_court_pauses)), (ah_seen, .inr (3, [.ref ah_seen_words, .int vh_seen_groups, .ref ah_seen_left, .int vh_seen_kept, .int vh_seen_flourishes, .int vh_seen_longGroups, .int vh_seen_reason, .int vh_seen_sentences])), (ah_seen_words, .inl (g.2.1, 24, .inl vh_seen_words)), (ah_seen_left, .inl (g.2.1, 24, .inl vh_seen_left)), (ah_plain, .inr (3, [.ref ah_plain_words, .int vh_plain_groups, .ref ah_plain_left, .int vh_plain_kept, .int vh_plain_flourishes, .int vh_plain_longGroups, .int vh_plain_reason, .int vh_plain_sentences])), (ah_plain_words, .inl (g.2.1, 24, .inl vh_plain_words)), (ah_plain_left, .inl (g.2.1, 24, .inl vh_plain_left))]) (bw_pick1 13 [10, 11, 0, 1, 12, 2, 3, 4, 5, 6, 7, 8, 9] rfl rfl (by decide)) ?_
        refine bw_st (st1 := [.int q_16]) rfl ?_
        cases Option.some.inj hf
        exact bw_ret rfl rfl (Nat.le_of_ble_eq_true rfl) (Nat.le_of_ble_eq_true rfl) dX4_courtier_55 ⟨rfl, rfl⟩
      · have hf := bw_neg c_15 hf
        rcases Decidable.em (p1 = 2) with c_17 | c_17
        · have hf := bw_pos c_17 hf
          refine bw_tableIn (off := 45) 56 dX4_courtier_11 (by rw [c_17]; decide) (by rw [c_17]; decide) (by rw [c_17]; rfl) (by decide) ?_
          refine bw_aload_n 0 dX4_courtier_56 rfl rfl ?_
          refine bw_iload_n 1 dX4_courtier_57 rfl rfl ?_
          obtain ⟨q_18, hc_18, hf⟩ := bw_bind hf
          refine bw_callV [.int p0] [] [(ah_court_settings, .inl (g.2.1, 3, .inl vh_court_settings)), (ah_court_eyes, .inl (g.2.1, 6, .inl vh_court_eyes)), (ah_court_numbers, .inl (g.2.1, 24, .inl vh_court_numbers)), (ah_court_pauses, .inl (g.2.1, 24, .inl vh_court_pauses)), (ah_seen, .inr (3, [.ref ah_seen_words, .int vh_seen_groups, .ref ah_seen_left, .int vh_seen_kept, .int vh_seen_flourishes, .int vh_seen_longGroups, .int vh_seen_reason, .int vh_seen_sentences])), (ah_seen_words, .inl (g.2.1, 24, .inl vh_seen_words)), (ah_seen_left, .inl (g.2.1, 24, .inl vh_seen_left)), (ah_plain, .inr (3, [.ref ah_plain_words, .int vh_plain_groups, .ref ah_plain_left, .int vh_plain_kept, .int vh_plain_flourishes, .int vh_plain_longGroups, .int vh_plain_reason, .int vh_plain_sentences])), (ah_plain_words, .inl (g.2.1, 24, .inl vh_plain_words)), (ah_plain_left, .inl (g.2.1, 24, .inl vh_plain_left))] 0 4 (s_X4_favoursOfCourtier l g ah ah_court ah_pad ah_history ah_slots ah_seen ah_plain ah_trial ah_court_settings ah_court_eyes ah_court_favours ah_court_numbers ah_court_pauses vh_court_bows vh_court_given vh_court_taken vh_court_favours p0 _ hc_18) rfl co_X4_favoursOfCourtier ini_X4 ml_X4_167 im_X4_favoursOfCourtier se_X4_favoursOfCourtier ar_X4_favoursOfCourtier ⟨Nat.le_of_ble_eq_true rfl, Nat.le_of_ble_eq_true rfl⟩ ⟨Nat.le_of_ble_eq_true rfl, Nat.le_of_ble_eq_true rfl⟩ rfl rfl (bw_pick1 13 [0, 1, 4, 2, 3, 5, 6, 7, 8, 9, 10, 11, 12] rfl rfl (by decide)) (Nat.le_of_ble_eq_true rfl) dX4_courtier_58 (fun r w1 hq => ?_)
          obtain ⟨rfl, rfl⟩ := hq
          refine bw_perm (ws1 := [(ah, .inr (4, [.ref ah_court, .ref ah_pad, .ref ah_history, .ref ah_slots, .ref ah_seen, .ref ah_plain, .ref ah_trial])), (ah_court, .inr (0, [.ref ah_court_settings, .ref ah_court_eyes, .ref ah_court_favours, .ref ah_court_numbers, .ref ah_court_pauses, .int vh_court_bows, .int vh_court_given, .int vh_court_taken])), (ah_court_settings, .inl (g.2.1, 3, .inl vh_court_settings)), (ah_court_eyes, .inl (g.2.1, 6, .inl vh_court_eyes)), (ah_court_favours, .inl (g.2.1, 36, .inl vh_court_favours)), (ah_court_numbers, .inl (g.2.1, 24, .inl vh_court_numbers)), (ah_court_pauses, .inl (g.2.1, 24, .inl vh_court_pauses)), (ah_seen, .inr (3, [.ref ah_seen_words, .int vh_seen_groups, .ref ah_seen_left, .int vh_seen_kept, .int vh_seen_flourishes, .int vh_seen_longGroups, .int vh_seen_reason, .int vh_seen_sentences])), (ah_seen_words, .inl (g.2.1, 24, .inl vh_seen_words)), (ah_seen_left, .inl (g.2.1, 24, .inl vh_seen_left)), (ah_plain, .inr (3, [.ref ah_plain_words, .int vh_plain_groups, .ref ah_plain_left, .int vh_plain_kept, .int vh_plain_flourishes, .int vh_plain_longGroups, .int vh_plain_reason, .int vh_plain_sentences])), (ah_plain_words, .inl (g.2.1, 24, .inl vh_plain_words)), (ah_plain_left, .inl (g.2.1, 24, .inl vh_plain_left))]) (bw_pick1 13 [10, 11, 0, 1, 12, 2, 3, 4, 5, 6, 7, 8, 9] rfl rfl (by decide)) ?_
          refine bw_st (st1 := [.int q_18]) rfl ?_
          cases Option.some.inj hf
          exact bw_ret rfl rfl (Nat.le_of_ble_eq_true rfl) (Nat.le_of_ble_eq_true rfl) dX4_courtier_61 ⟨rfl, rfl⟩
        · have hf := bw_neg c_17 hf
          rcases Decidable.em (p1 = 3) with c_19 | c_19
          · have hf := bw_pos c_19 hf
            refine bw_tableIn (off := 51) 62 dX4_courtier_11 (by rw [c_19]; decide) (by rw [c_19]; decide) (by rw [c_19]; rfl) (by decide) ?_
            refine bw_aload_n 0 dX4_courtier_62 rfl rfl ?_
            refine bw_iload_n 1 dX4_courtier_63 rfl rfl ?_
            obtain ⟨q_20, hc_20, hf⟩ := bw_bind hf
            refine bw_callV [.int p0] [] [(ah_court_favours, .inl (g.2.1, 36, .inl vh_court_favours))] 0 4 (s_X4_sentencesTakenIfGiven l g ah ah_court ah_pad ah_history ah_slots ah_seen ah_plain ah_trial ah_court_settings ah_court_eyes ah_court_favours ah_court_numbers ah_court_pauses ah_seen_words ah_seen_left ah_plain_words ah_plain_left vh_court_bows vh_court_given vh_court_taken vh_court_settings vh_court_eyes vh_court_numbers vh_court_pauses vh_seen_groups vh_seen_kept vh_seen_flourishes vh_seen_longGroups vh_seen_reason vh_seen_sentences vh_seen_words vh_seen_left vh_plain_groups vh_plain_kept vh_plain_flourishes vh_plain_longGroups vh_plain_reason vh_plain_sentences vh_plain_words vh_plain_left p0 _ hc_20) rfl co_X4_sentencesTakenIfGiven ini_X4 ml_X4_170 im_X4_sentencesTakenIfGiven se_X4_sentencesTakenIfGiven ar_X4_sentencesTakenIfGiven ⟨Nat.le_of_ble_eq_true rfl, Nat.le_of_ble_eq_true rfl⟩ ⟨Nat.le_of_ble_eq_true rfl, Nat.le_of_ble_eq_true rfl⟩ rfl rfl (bw_pick1 13 [0, 1, 2, 3, 5, 6, 7, 8, 9, 10, 11, 12, 4] rfl rfl (by decide)) (Nat.le_of_ble_eq_true rfl) dX4_courtier_64 (fun r w1 hq => ?_)
            obtain ⟨rfl, rfl⟩ := hq
            refine bw_perm (ws1 := [(ah, .inr (4, [.ref ah_court, .ref ah_pad, .ref ah_history, .ref ah_slots, .ref ah_seen, .ref ah_plain, .ref ah_trial])), (ah_court, .inr (0, [.ref ah_court_settings, .ref ah_court_eyes, .ref ah_court_favours, .ref ah_court_numbers, .ref ah_court_pauses, .int vh_court_bows, .int vh_court_given, .int vh_court_taken])), (ah_court_settings, .inl (g.2.1, 3, .inl vh_court_settings)), (ah_court_eyes, .inl (g.2.1, 6, .inl vh_court_eyes)), (ah_court_favours, .inl (g.2.1, 36, .inl vh_court_favours)), (ah_court_numbers, .inl (g.2.1, 24, .inl vh_court_numbers)), (ah_court_pauses, .inl (g.2.1, 24, .inl vh_court_pauses)), (ah_seen, .inr (3, [.ref ah_seen_words, .int q_20.2.1, .ref ah_seen_left, .int q_20.2.2.1, .int q_20.2.2.2.1, .int q_20.2.2.2.2.1, .int q_20.2.2.2.2.2.1, .int q_20.2.2.2.2.2.2.1])), (ah_seen_words, .inl (g.2.1, 24, .inl q_20.2.2.2.2.2.2.2.1)), (ah_seen_left, .inl (g.2.1, 24, .inl q_20.2.2.2.2.2.2.2.2.1)), (ah_plain, .inr (3, [.ref ah_plain_words, .int q_20.2.2.2.2.2.2.2.2.2.1, .ref ah_plain_left, .int q_20.2.2.2.2.2.2.2.2.2.2.1, .int q_20.2.2.2.2.2.2.2.2.2.2.2.1, .int q_20.2.2.2.2.2.2.2.2.2.2.2.2.1, .int q_20.2.2.2.2.2.2.2.2.2.2.2.2.2.1, .int q_20.2.2.2.2.2.2.2.2.2.2.2.2.2.2.1])), (ah_plain_words, .inl (g.2.1, 24, .inl q_20.2.2.2.2.2.2.2.2.2.2.2.2.2.2.2.1)), (ah_plain_left, .inl (g.2.1, 24, .inl q_20.2.2.2.2.2.2.2.2.2.2.2.2.2.2.2.2))]) (bw_pick1 13 [1, 2, 3, 4, 0, 5, 6, 7, 8, 9, 10, 11, 12] rfl rfl (by decide)) ?_
            refine bw_st (st1 := [.int q_20.1]) rfl ?_
            cases Option.some.inj hf
            exact bw_ret rfl rfl (Nat.le_of_ble_eq_true rfl) (Nat.le_of_ble_eq_true rfl) dX4_courtier_67 ⟨rfl, rfl⟩
          · have hf := bw_neg c_19 hf
            refine bw_tableOut 68 dX4_courtier_11 (bw_out4_0 c_13 c_15 c_17 c_19) (by decide) ?_
            refine bw_ldc ct_X4_47 dX4_courtier_68 ?_
            cases Option.some.inj hf
            exact bw_ret rfl rfl (Nat.le_of_ble_eq_true rfl) (Nat.le_of_ble_eq_true rfl) dX4_courtier_70 ⟨rfl, rfl⟩
  · have hf := bw_pos c_12 hf
    refine bw_ldc ct_X4_60 dX4_courtier_7 ?_
    cases Option.some.inj hf
    exact bw_ret rfl rfl (Nat.le_of_ble_eq_true rfl) (Nat.le_of_ble_eq_true rfl) dX4_courtier_9 ⟨rfl, rfl⟩
theorem ar_X4_gain : yX4_gain.cls ≠ "java/lang/invoke/MethodHandle" ∧ yX4_gain.cls ≠ "java/lang/invoke/VarHandle" ∧ (parseMethodDescriptor yX4_gain.desc).map (fun d => d.parameters.length) = some 2 := ⟨by decide, by decide, by decide +kernel⟩
def f_X4_gain (vh_court_settings : Nat → Int32) (vh_seen_left : Nat → Int32) (p0 : Int32) (p1 : Int32) : Option (Int32) := ((f_X3_isKind vh_seen_left p1).bind fun q_9 => (if q_9 = 0 then (if bw_in 2 3 then ((f_X3_part vh_seen_left p1 2).bind fun q_12 => (if q_12 = p0 then some (2 * (-(vh_court_settings (Int32.toNatClampNeg 2)))) else some (-(vh_court_settings (Int32.toNatClampNeg 2))))) else none) else (if bw_in 1 3 then ((f_X3_part vh_seen_left p1 2).bind fun q_15 => (if q_15 = p0 then some (2 * (vh_court_settings (Int32.toNatClampNeg 1))) else some (vh_court_settings (Int32.toNatClampNeg 1)))) else none)))
set_option maxHeartbeats 4000000 in
set_option maxRecDepth 100000 in
theorem s_X4_gain (l : Launch) (g : bwG) (ah ah_court ah_pad ah_history ah_slots ah_seen ah_plain ah_trial ah_court_settings ah_court_eyes ah_court_favours ah_court_numbers ah_court_pauses ah_seen_words ah_seen_left : Nat) (vh_court_bows : Int32) (vh_court_given : Int32) (vh_court_taken : Int32) (vh_court_settings : Nat → Int32) (vh_seen_groups : Int32) (vh_seen_kept : Int32) (vh_seen_flourishes : Int32) (vh_seen_longGroups : Int32) (vh_seen_reason : Int32) (vh_seen_sentences : Int32) (vh_seen_left : Nat → Int32) (p0 : Int32) (p1 : Int32) (res : Int32) (hf : f_X4_gain vh_court_settings vh_seen_left p0 p1 = some res) : bwS l g yX4_gain cX4_gain 4 (some .int) ({ frames := 2, cells := 0, slots := 0, locals := 44 } : Room) [.ref ah, .int p0, .int p1] ([(ah, .inr (4, [.ref ah_court, .ref ah_pad, .ref ah_history, .ref ah_slots, .ref ah_seen, .ref ah_plain, .ref ah_trial])), (ah_court, .inr (0, [.ref ah_court_settings, .ref ah_court_eyes, .ref ah_court_favours, .ref ah_court_numbers, .ref ah_court_pauses, .int vh_court_bows, .int vh_court_given, .int vh_court_taken])), (ah_court_settings, .inl (g.2.1, 3, .inl vh_court_settings)), (ah_seen, .inr (3, [.ref ah_seen_words, .int vh_seen_groups, .ref ah_seen_left, .int vh_seen_kept, .int vh_seen_flourishes, .int vh_seen_longGroups, .int vh_seen_reason, .int vh_seen_sentences])), (ah_seen_left, .inl (g.2.1, 24, .inl vh_seen_left))]) (fun r w => r = some (.int res) ∧ w = [(ah, .inr (4, [.ref ah_court, .ref ah_pad, .ref ah_history, .ref ah_slots, .ref ah_seen, .ref ah_plain, .ref ah_trial])), (ah_court, .inr (0, [.ref ah_court_settings, .ref ah_court_eyes, .ref ah_court_favours, .ref ah_court_numbers, .ref ah_court_pauses, .int vh_court_bows, .int vh_court_given, .int vh_court_taken])), (ah_court_settings, .inl (g.2.1, 3, .inl vh_court_settings)), (ah_seen, .inr (3, [.ref ah_seen_words, .int vh_seen_groups, .ref ah_seen_left, .int vh_seen_kept, .int vh_seen_flourishes, .int vh_seen_longGroups, .int vh_seen_reason, .int vh_seen_sentences])), (ah_seen_left, .inl (g.2.1, 24, .inl vh_seen_left))]) := by
  refine bwS_of (by decide) (Nat.le_of_ble_eq_true rfl) ?_
  unfold f_X4_gain at hf
  show bwR l g cX4_gain 4 RX4 "gain" (some .int) ({ frames := 2, cells := 0, slots := 0, locals := 44 } : Room) bwT (bwZ g (fun r w => r = some (.int res) ∧ w = [(ah, .inr (4, [.ref ah_court, .ref ah_pad, .ref ah_history, .ref ah_slots, .ref ah_seen, .ref ah_plain, .ref ah_trial])), (ah_court, .inr (0, [.ref ah_court_settings, .ref ah_court_eyes, .ref ah_court_favours, .ref ah_court_numbers, .ref ah_court_pauses, .int vh_court_bows, .int vh_court_given, .int vh_court_taken])), (ah_court_settings, .inl (g.2.1, 3, .inl vh_court_settings)), (ah_seen, .inr (3, [.ref ah_seen_words, .int vh_seen_groups, .ref ah_seen_left, .int vh_seen_kept, .int vh_seen_flourishes, .int vh_seen_longGroups, .int vh_seen_reason, .int vh_seen_sentences])), (ah_seen_left, .inl (g.2.1, 24, .inl vh_seen_left))]) 0 0) 0 [(0, .ref ah), (1, .int p0), (2, .int p1)] [] ([(ah, .inr (4, [.ref ah_court, .ref ah_pad, .ref ah_history, .ref ah_slots, .ref ah_seen, .ref ah_plain, .ref ah_trial])), (ah_court, .inr (0, [.ref ah_court_settings, .ref ah_court_eyes, .ref ah_court_favours, .ref ah_court_numbers, .ref ah_court_pauses, .int vh_court_bows, .int vh_court_given, .int vh_court_taken])), (ah_court_settings, .inl (g.2.1, 3, .inl vh_court_settings)), (ah_seen, .inr (3, [.ref ah_seen_words, .int vh_seen_groups, .ref ah_seen_left, .int vh_seen_kept, .int vh_seen_flourishes, .int vh_seen_longGroups, .int vh_seen_reason, .int vh_seen_sentences])), (ah_seen_left, .inl (g.2.1, 24, .inl vh_seen_left))]) 0 0
  refine bw_aload_n 0 dX4_gain_0 rfl rfl ?_
  refine bw_gf bkX4 0 4 (by decide) fl_X4_37 rfl rfl dX4_gain_1 ?_
  refine bw_iload_n 2 dX4_gain_4 rfl rfl ?_
  obtain ⟨q_9, hc_9, hf⟩ := bw_bind hf
  refine bw_callV [.int p1] [] [(ah, .inr (4, [.ref ah_court, .ref ah_pad, .ref ah_history, .ref ah_slots, .ref ah_seen, .ref ah_plain, .ref ah_trial])), (ah_court, .inr (0, [.ref ah_court_settings, .ref ah_court_eyes, .ref ah_court_favours, .ref ah_court_numbers, .ref ah_court_pauses, .int vh_court_bows, .int vh_court_given, .int vh_court_taken])), (ah_court_settings, .inl (g.2.1, 3, .inl vh_court_settings))] 0 3 (s_X3_isKind l g ah_seen ah_seen_words ah_seen_left vh_seen_groups vh_seen_kept vh_seen_flourishes vh_seen_longGroups vh_seen_reason vh_seen_sentences vh_seen_left p1 _ hc_9) rfl co_X3_isKind ini_X3 ml_X4_149 im_X3_isKind se_X3_isKind ar_X3_isKind ⟨Nat.le_of_ble_eq_true rfl, Nat.le_of_ble_eq_true rfl⟩ ⟨Nat.le_of_ble_eq_true rfl, Nat.le_of_ble_eq_true rfl⟩ rfl rfl (bw_pick1 5 [3, 4, 0, 1, 2] rfl rfl (by decide)) (Nat.le_of_ble_eq_true rfl) dX4_gain_5 (fun r w1 hq => ?_)
  obtain ⟨rfl, rfl⟩ := hq
  refine bw_perm (ws1 := [(ah, .inr (4, [.ref ah_court, .ref ah_pad, .ref ah_history, .ref ah_slots, .ref ah_seen, .ref ah_plain, .ref ah_trial])), (ah_court, .inr (0, [.ref ah_court_settings, .ref ah_court_eyes, .ref ah_court_favours, .ref ah_court_numbers, .ref ah_court_pauses, .int vh_court_bows, .int vh_court_given, .int vh_court_taken])), (ah_court_settings, .inl (g.2.1, 3, .inl vh_court_settings)), (ah_seen, .inr (3, [.ref ah_seen_words, .int vh_seen_groups, .ref ah_seen_left, .int vh_seen_kept, .int vh_seen_flourishes, .int vh_seen_longGroups, .int vh_seen_reason, .int vh_seen_sentences])), (ah_seen_left, .inl (g.2.1, 24, .inl vh_seen_left))]) (bw_pick1 5 [0, 1, 2, 3, 4] rfl rfl (by decide)) ?_
  refine bw_st (st1 := [.int q_9]) rfl ?_
  refine bw_if_eq 23 dX4_gain_8 (by decide) (fun c_10 => ?_) (fun c_10 => ?_)
  · have hf := bw_pos c_10 hf
    refine bw_aload_n 0 dX4_gain_23 rfl rfl ?_
    refine bw_gf bkX4 0 0 (by decide) fl_X4_10 rfl rfl dX4_gain_24 ?_
    refine bw_gf bkX0 1 0 (by decide) fl_X4_52 rfl rfl dX4_gain_27 ?_
    refine bw_iconst 2 dX4_gain_30 (by decide) ?_
    obtain ⟨h_11, hf⟩ := bw_chk hf
    refine bw_iald 2 rfl h_11 dX4_gain_31 ?_
    refine bw_ineg dX4_gain_32 ?_
    refine bw_istore_n [(3, .int ((-(vh_court_settings (Int32.toNatClampNeg 2))))), (0, .ref ah), (1, .int p0), (2, .int p1)] dX4_gain_33 rfl (by decide) rfl ?_
    refine bw_aload_n 1 dX4_gain_34 rfl rfl ?_
    refine bw_gf bkX4 0 4 (by decide) fl_X4_37 rfl rfl dX4_gain_35 ?_
    refine bw_iload_n 3 dX4_gain_38 rfl rfl ?_
    refine bw_iconst 2 dX4_gain_39 (by decide) ?_
    obtain ⟨q_12, hc_12, hf⟩ := bw_bind hf
    refine bw_callV [.int p1, .int 2] [] [(ah, .inr (4, [.ref ah_court, .ref ah_pad, .ref ah_history, .ref ah_slots, .ref ah_seen, .ref ah_plain, .ref ah_trial])), (ah_court, .inr (0, [.ref ah_court_settings, .ref ah_court_eyes, .ref ah_court_favours, .ref ah_court_numbers, .ref ah_court_pauses, .int vh_court_bows, .int vh_court_given, .int vh_court_taken])), (ah_court_settings, .inl (g.2.1, 3, .inl vh_court_settings))] 0 3 (s_X3_part l g ah_seen ah_seen_words ah_seen_left vh_seen_groups vh_seen_kept vh_seen_flourishes vh_seen_longGroups vh_seen_reason vh_seen_sentences vh_seen_left p1 2 _ hc_12) rfl co_X3_part ini_X3 ml_X4_152 im_X3_part se_X3_part ar_X3_part ⟨Nat.le_of_ble_eq_true rfl, Nat.le_of_ble_eq_true rfl⟩ ⟨Nat.le_of_ble_eq_true rfl, Nat.le_of_ble_eq_true rfl⟩ rfl rfl (bw_pick1 5 [3, 4, 0, 1, 2] rfl rfl (by decide)) (Nat.le_of_ble_eq_true rfl) dX4_gain_40 (fun r w1 hq => ?_)
    obtain ⟨rfl, rfl⟩ := hq
    refine bw_perm (ws1 := [(ah, .inr (4, [.ref ah_court, .ref ah_pad, .ref ah_history, .ref ah_slots, .ref ah_seen, .ref ah_plain, .ref ah_trial])), (ah_court, .inr (0, [.ref ah_court_settings, .ref ah_court_eyes, .ref ah_court_favours, .ref ah_court_numbers, .ref ah_court_pauses, .int vh_court_bows, .int vh_court_given, .int vh_court_taken])), (ah_court_settings, .inl (g.2.1, 3, .inl vh_court_settings)), (ah_seen, .inr (3, [.ref ah_seen_words, .int vh_seen_groups, .ref ah_seen_left, .int vh_seen_kept, .int vh_seen_flourishes, .int vh_seen_longGroups, .int vh_seen_reason, .int vh_seen_sentences])), (ah_seen_left, .inl (g.2.1, 24, .inl vh_seen_left))]) (bw_pick1 5 [0, 1, 2, 3, 4] rfl rfl (by decide)) ?_
    refine bw_st (st1 := [.int q_12]) rfl ?_
    refine bw_iload_n 2 dX4_gain_43 rfl rfl ?_
    refine bw_icmp_ne 53 dX4_gain_44 (by decide) (fun c_13 => ?_) (fun c_13 => ?_)
    · have hf := bw_neg c_13 hf
      refine bw_iload_n 0 dX4_gain_53 rfl rfl ?_
      cases Option.some.inj hf
      exact bw_ret rfl rfl (Nat.le_of_ble_eq_true rfl) (Nat.le_of_ble_eq_true rfl) dX4_gain_54 ⟨rfl, rfl⟩
    · have hf := bw_pos c_13 hf
      refine bw_iconst 2 dX4_gain_47 (by decide) ?_
      refine bw_iload_n 0 dX4_gain_48 rfl rfl ?_
      refine bw_imul dX4_gain_49 ?_
      refine bw_goto 54 dX4_gain_50 (by decide) ?_
      cases Option.some.inj hf
      exact bw_ret rfl rfl (Nat.le_of_ble_eq_true rfl) (Nat.le_of_ble_eq_true rfl) dX4_gain_54 ⟨rfl, rfl⟩
  · have hf := bw_neg c_10 hf
    refine bw_aload_n 0 dX4_gain_11 rfl rfl ?_
    refine bw_gf bkX4 0 0 (by decide) fl_X4_10 rfl rfl dX4_gain_12 ?_
    refine bw_gf bkX0 1 0 (by decide) fl_X4_52 rfl rfl dX4_gain_15 ?_
    refine bw_iconst 1 dX4_gain_18 (by decide) ?_
    obtain ⟨h_14, hf⟩ := bw_chk hf
    refine bw_iald 2 rfl h_14 dX4_gain_19 ?_
    refine bw_goto 33 dX4_gain_20 (by decide) ?_
    refine bw_istore_n [(3, .int ((vh_court_settings (Int32.toNatClampNeg 1)))), (0, .ref ah), (1, .int p0), (2, .int p1)] dX4_gain_33 rfl (by decide) rfl ?_
    refine bw_aload_n 1 dX4_gain_34 rfl rfl ?_
    refine bw_gf bkX4 0 4 (by decide) fl_X4_37 rfl rfl dX4_gain_35 ?_
    refine bw_iload_n 3 dX4_gain_38 rfl rfl ?_
    refine bw_iconst 2 dX4_gain_39 (by decide) ?_
    obtain ⟨q_15, hc_15, hf⟩ := bw_bind hf
    refine bw_callV [.int p1, .int 2] [] [(ah, .inr (4, [.ref ah_court, .ref ah_pad, .ref ah_history, .ref ah_slots, .ref ah_seen, .ref ah_plain, .ref ah_trial])), (ah_court, .inr (0, [.ref ah_court_settings, .ref ah_court_eyes, .ref ah_court_favours, .ref ah_court_numbers, .ref ah_court_pauses, .int vh_court_bows, .int vh_court_given, .int vh_court_taken])), (ah_court_settings, .inl (g.2.1, 3, .inl vh_court_settings))] 0 3 (s_X3_part l g ah_seen ah_seen_words ah_seen_left vh_seen_groups vh_seen_kept vh_seen_flourishes vh_seen_longGroups vh_seen_reason vh_seen_sentences vh_seen_left p1 2 _ hc_15) rfl co_X3_part ini_X3 ml_X4_152 im_X3_part se_X3_part ar_X3_part ⟨Nat.le_of_ble_eq_true rfl, Nat.le_of_ble_eq_true rfl⟩ ⟨Nat.le_of_ble_eq_true rfl, Nat.le_of_ble_eq_true rfl⟩ rfl rfl (bw_pick1 5 [3, 4, 0, 1, 2] rfl rfl (by decide)) (Nat.le_of_ble_eq_true rfl) dX4_gain_40 (fun r w1 hq => ?_)
    obtain ⟨rfl, rfl⟩ := hq
    refine bw_perm (ws1 := [(ah, .inr (4, [.ref ah_court, .ref ah_pad, .ref ah_history, .ref ah_slots, .ref ah_seen, .ref ah_plain, .ref ah_trial])), (ah_court, .inr (0, [.ref ah_court_settings, .ref ah_court_eyes, .ref ah_court_favours, .ref ah_court_numbers, .ref ah_court_pauses, .int vh_court_bows, .int vh_court_given, .int vh_court_taken])), (ah_court_settings, .inl (g.2.1, 3, .inl vh_court_settings)), (ah_seen, .inr (3, [.ref ah_seen_words, .int vh_seen_groups, .ref ah_seen_left, .int vh_seen_kept, .int vh_seen_flourishes, .int vh_seen_longGroups, .int vh_seen_reason, .int vh_seen_sentences])), (ah_seen_left, .inl (g.2.1, 24, .inl vh_seen_left))]) (bw_pick1 5 [0, 1, 2, 3, 4] rfl rfl (by decide)) ?_
    refine bw_st (st1 := [.int q_15]) rfl ?_
    refine bw_iload_n 2 dX4_gain_43 rfl rfl ?_
    refine bw_icmp_ne 53 dX4_gain_44 (by decide) (fun c_16 => ?_) (fun c_16 => ?_)
    · have hf := bw_neg c_16 hf
      refine bw_iload_n 0 dX4_gain_53 rfl rfl ?_
      cases Option.some.inj hf
      exact bw_ret rfl rfl (Nat.le_of_ble_eq_true rfl) (Nat.le_of_ble_eq_true rfl) dX4_gain_54 ⟨rfl, rfl⟩
    · have hf := bw_pos c_16 hf
      refine bw_iconst 2 dX4_gain_47 (by decide) ?_
      refine bw_iload_n 0 dX4_gain_48 rfl rfl ?_
      refine bw_imul dX4_gain_49 ?_
      refine bw_goto 54 dX4_gain_50 (by decide) ?_
      cases Option.some.inj hf
      exact bw_ret rfl rfl (Nat.le_of_ble_eq_true rfl) (Nat.le_of_ble_eq_true rfl) dX4_gain_54 ⟨rfl, rfl⟩
def f_X4_favourBehindSeen_L26 : Nat → (Nat → Int32) → (Nat → Int32) → (Int32) → (Nat → Int32) → (Int32) → (Int32) → (Int32) → (Int32) → Option (Int32)
  | 0, _, _, _, _, _, _, _, _ => none
  | fu + 1, vh_court_settings, vh_court_favours, vh_seen_sentences, vh_seen_left, x1, x2, x3, x4 => (if vh_seen_sentences ≤ x4 then some x3 else ((f_X3_part vh_seen_left x4 0).bind fun q_9 => (if q_9 = x2 then ((f_X4_gain vh_court_settings vh_seen_left x1 x4).bind fun q_11 => (f_X4_favourBehindSeen_L26 fu vh_court_settings vh_court_favours vh_seen_sentences vh_seen_left x1 x2 ((if (-99) < (if (x3 + q_11) < 99 then (x3 + q_11) else 99) then (if (x3 + q_11) < 99 then (x3 + q_11) else 99) else (-99))) ((x4 + 1)))) else (f_X4_favourBehindSeen_L26 fu vh_court_settings vh_court_favours vh_seen_sentences vh_seen_left x1 x2 x3 ((x4 + 1))))))
set_option maxHeartbeats 4000000 in
set_option maxRecDepth 100000 in
theorem s_X4_favourBehindSeen_L26 (l : Launch) (g : bwG) (ah ah_court ah_pad ah_history ah_slots ah_seen ah_plain ah_trial ah_court_settings ah_court_eyes ah_court_favours ah_court_numbers ah_court_pauses ah_seen_words ah_seen_left : Nat) (fu : Nat) : ∀ (vh_court_bows : Int32) (vh_court_given : Int32) (vh_court_taken : Int32) (vh_court_settings : Nat → Int32) (vh_court_favours : Nat → Int32) (vh_seen_groups : Int32) (vh_seen_kept : Int32) (vh_seen_flourishes : Int32) (vh_seen_longGroups : Int32) (vh_seen_reason : Int32) (vh_seen_sentences : Int32) (vh_seen_left : Nat → Int32) (x1 : Int32) (x2 : Int32) (x3 : Int32) (x4 : Int32) (res : Int32), f_X4_favourBehindSeen_L26 fu vh_court_settings vh_court_favours vh_seen_sentences vh_seen_left x1 x2 x3 x4 = some res → bwR l g cX4_favourBehindSeen 5 RX4 "favourBehindSeen" (some .int) ({ frames := 3, cells := 0, slots := 0, locals := 67 } : Room) bwT (bwZ g (fun r w => r = some (.int res) ∧ w = [(ah, .inr (4, [.ref ah_court, .ref ah_pad, .ref ah_history, .ref ah_slots, .ref ah_seen, .ref ah_plain, .ref ah_trial])), (ah_court, .inr (0, [.ref ah_court_settings, .ref ah_court_eyes, .ref ah_court_favours, .ref ah_court_numbers, .ref ah_court_pauses, .int vh_court_bows, .int vh_court_given, .int vh_court_taken])), (ah_court_settings, .inl (g.2.1, 3, .inl vh_court_settings)), (ah_court_favours, .inl (g.2.1, 36, .inl vh_court_favours)), (ah_seen, .inr (3, [.ref ah_seen_words, .int vh_seen_groups, .ref ah_seen_left, .int vh_seen_kept, .int vh_seen_flourishes, .int vh_seen_longGroups, .int vh_seen_reason, .int vh_seen_sentences])), (ah_seen_left, .inl (g.2.1, 24, .inl vh_seen_left))]) 0 0) 26 [(0, .ref ah), (1, .int x1), (2, .int x2), (3, .int x3), (4, .int x4)] [] ([(ah, .inr (4, [.ref ah_court, .ref ah_pad, .ref ah_history, .ref ah_slots, .ref ah_seen, .ref ah_plain, .ref ah_trial])), (ah_court, .inr (0, [.ref ah_court_settings, .ref ah_court_eyes, .ref ah_court_favours, .ref ah_court_numbers, .ref ah_court_pauses, .int vh_court_bows, .int vh_court_given, .int vh_court_taken])), (ah_court_settings, .inl (g.2.1, 3, .inl vh_court_settings)), (ah_court_favours, .inl (g.2.1, 36, .inl vh_court_favours)), (ah_seen, .inr (3, [.ref ah_seen_words, .int vh_seen_groups, .ref ah_seen_left, .int vh_seen_kept, .int vh_seen_flourishes, .int vh_seen_longGroups, .int vh_seen_reason, .int vh_seen_sentences])), (ah_seen_left, .inl (g.2.1, 24, .inl vh_seen_left))]) 0 0 := by
  induction fu with
  | zero => intro vh_court_bows vh_court_given vh_court_taken vh_court_settings vh_court_favours vh_seen_groups vh_seen_kept vh_seen_flourishes vh_seen_longGroups vh_seen_reason vh_seen_sentences vh_seen_left x1 x2 x3 x4 res hf; exact absurd hf (by intro h; cases h)
  | succ fu ih =>
    intro vh_court_bows vh_court_given vh_court_taken vh_court_settings vh_court_favours vh_seen_groups vh_seen_kept vh_seen_flourishes vh_seen_longGroups vh_seen_reason vh_seen_sentences vh_seen_left x1 x2 x3 x4 res hf
    rw [f_X4_favourBehindSeen_L26] at hf
    refine bw_iload 4 dX4_favourBehindSeen_26 rfl ?_
    refine bw_aload_n 0 dX4_favourBehindSeen_28 rfl rfl ?_
    refine bw_gf bkX4 0 4 (by decide) fl_X4_37 rfl rfl dX4_favourBehindSeen_29 ?_
    refine bw_gf bkX3 4 7 (by decide) fl_X4_136 rfl rfl dX4_favourBehindSeen_32 ?_
    refine bw_icmp_ge 78 dX4_favourBehindSeen_35 (by decide) (fun c_8 => ?_) (fun c_8 => ?_)
    · have hf := bw_pos c_8 hf
      refine bw_iload_n 3 dX4_favourBehindSeen_78 rfl rfl ?_
      cases Option.some.inj hf
      exact bw_ret rfl rfl (Nat.le_of_ble_eq_true rfl) (Nat.le_of_ble_eq_true rfl) dX4_favourBehindSeen_79 ⟨rfl, rfl⟩
    · have hf := bw_neg c_8 hf
      refine bw_aload_n 0 dX4_favourBehindSeen_38 rfl rfl ?_
      refine bw_gf bkX4 0 4 (by decide) fl_X4_37 rfl rfl dX4_favourBehindSeen_39 ?_
      refine bw_iload 4 dX4_favourBehindSeen_42 rfl ?_
      refine bw_iconst 0 dX4_favourBehindSeen_44 (by decide) ?_
      obtain ⟨q_9, hc_9, hf⟩ := bw_bind hf
      refine bw_callV [.int x4, .int 0] [] [(ah, .inr (4, [.ref ah_court, .ref ah_pad, .ref ah_history, .ref ah_slots, .ref ah_seen, .ref ah_plain, .ref ah_trial])), (ah_court, .inr (0, [.ref ah_court_settings, .ref ah_court_eyes, .ref ah_court_favours, .ref ah_court_numbers, .ref ah_court_pauses, .int vh_court_bows, .int vh_court_given, .int vh_court_taken])), (ah_court_settings, .inl (g.2.1, 3, .inl vh_court_settings)), (ah_court_favours, .inl (g.2.1, 36, .inl vh_court_favours))] 0 3 (s_X3_part l g ah_seen ah_seen_words ah_seen_left vh_seen_groups vh_seen_kept vh_seen_flourishes vh_seen_longGroups vh_seen_reason vh_seen_sentences vh_seen_left x4 0 _ hc_9) rfl co_X3_part ini_X3 ml_X4_152 im_X3_part se_X3_part ar_X3_part ⟨Nat.le_of_ble_eq_true rfl, Nat.le_of_ble_eq_true rfl⟩ ⟨Nat.le_of_ble_eq_true rfl, Nat.le_of_ble_eq_true rfl⟩ rfl rfl (bw_pick1 6 [4, 5, 0, 1, 2, 3] rfl rfl (by decide)) (Nat.le_of_ble_eq_true rfl) dX4_favourBehindSeen_45 (fun r w1 hq => ?_)
      obtain ⟨rfl, rfl⟩ := hq
      refine bw_perm (ws1 := [(ah, .inr (4, [.ref ah_court, .ref ah_pad, .ref ah_history, .ref ah_slots, .ref ah_seen, .ref ah_plain, .ref ah_trial])), (ah_court, .inr (0, [.ref ah_court_settings, .ref ah_court_eyes, .ref ah_court_favours, .ref ah_court_numbers, .ref ah_court_pauses, .int vh_court_bows, .int vh_court_given, .int vh_court_taken])), (ah_court_settings, .inl (g.2.1, 3, .inl vh_court_settings)), (ah_court_favours, .inl (g.2.1, 36, .inl vh_court_favours)), (ah_seen, .inr (3, [.ref ah_seen_words, .int vh_seen_groups, .ref ah_seen_left, .int vh_seen_kept, .int vh_seen_flourishes, .int vh_seen_longGroups, .int vh_seen_reason, .int vh_seen_sentences])), (ah_seen_left, .inl (g.2.1, 24, .inl vh_seen_left))]) (bw_pick1 6 [0, 1, 2, 3, 4, 5] rfl rfl (by decide)) ?_
      refine bw_st (st1 := [.int q_9]) rfl ?_
      refine bw_iload_n 2 dX4_favourBehindSeen_48 rfl rfl ?_
      refine bw_icmp_ne 72 dX4_favourBehindSeen_49 (by decide) (fun c_10 => ?_) (fun c_10 => ?_)
      · have hf := bw_neg c_10 hf
        refine bw_iinc 4 (x4 + 1) [(4, .int ((x4 + 1))), (0, .ref ah), (1, .int x1), (2, .int x2), (3, .int x3)] dX4_favourBehindSeen_72 rfl rfl (by decide) rfl ?_
        refine bw_goto 26 dX4_favourBehindSeen_75 (by decide) ?_
        refine bw_lv [1, 2, 3, 4, 0] rfl ?_
        exact ih vh_court_bows vh_court_given vh_court_taken vh_court_settings vh_court_favours vh_seen_groups vh_seen_kept vh_seen_flourishes vh_seen_longGroups vh_seen_reason vh_seen_sentences vh_seen_left x1 x2 x3 ((x4 + 1)) _ hf
      · have hf := bw_pos c_10 hf
        refine bw_bipush (-99) dX4_favourBehindSeen_52 (by decide) ?_
        refine bw_bipush 99 dX4_favourBehindSeen_54 (by decide) ?_
        refine bw_iload_n 3 dX4_favourBehindSeen_56 rfl rfl ?_
        refine bw_aload_n 0 dX4_favourBehindSeen_57 rfl rfl ?_
        refine bw_iload_n 1 dX4_favourBehindSeen_58 rfl rfl ?_
        refine bw_iload 4 dX4_favourBehindSeen_59 rfl ?_
        obtain ⟨q_11, hc_11, hf⟩ := bw_bind hf
        refine bw_callV [.int x1, .int x4] [.int x3, .int 99, .int ((-99))] [(ah_court_favours, .inl (g.2.1, 36, .inl vh_court_favours))] 0 4 (s_X4_gain l g ah ah_court ah_pad ah_history ah_slots ah_seen ah_plain ah_trial ah_court_settings ah_court_eyes ah_court_favours ah_court_numbers ah_court_pauses ah_seen_words ah_seen_left vh_court_bows vh_court_given vh_court_taken vh_court_settings vh_seen_groups vh_seen_kept vh_seen_flourishes vh_seen_longGroups vh_seen_reason vh_seen_sentences vh_seen_left x1 x4 _ hc_11) rfl co_X4_gain ini_X4 ml_X4_199 im_X4_gain se_X4_gain ar_X4_gain ⟨Nat.le_of_ble_eq_true rfl, Nat.le_of_ble_eq_true rfl⟩ ⟨Nat.le_of_ble_eq_true rfl, Nat.le_of_ble_eq_true rfl⟩ rfl rfl (bw_pick1 6 [0, 1, 2, 4, 5, 3] rfl rfl (by decide)) (Nat.le_of_ble_eq_true rfl) dX4_favourBehindSeen_61 (fun r w1 hq => ?_)
        obtain ⟨rfl, rfl⟩ := hq
        refine bw_perm (ws1 := [(ah, .inr (4, [.ref ah_court, .ref ah_pad, .ref ah_history, .ref ah_slots, .ref ah_seen, .ref ah_plain, .ref ah_trial])), (ah_court, .inr (0, [.ref ah_court_settings, .ref ah_court_eyes, .ref ah_court_favours, .ref ah_court_numbers, .ref ah_court_pauses, .int vh_court_bows, .int vh_court_given, .int vh_court_taken])), (ah_court_settings, .inl (g.2.1, 3, .inl vh_court_settings)), (ah_court_favours, .inl (g.2.1, 36, .inl vh_court_favours)), (ah_seen, .inr (3, [.ref ah_seen_words, .int vh_seen_groups, .ref ah_seen_left, .int vh_seen_kept, .int vh_seen_flourishes, .int vh_seen_longGroups, .int vh_seen_reason, .int vh_seen_sentences])), (ah_seen_left, .inl (g.2.1, 24, .inl vh_seen_left))]) (bw_pick1 6 [1, 2, 3, 0, 4, 5] rfl rfl (by decide)) ?_
        refine bw_st (st1 := [.int q_11, .int x3, .int 99, .int ((-99))]) rfl ?_
        refine bw_iadd dX4_favourBehindSeen_64 ?_
        refine bw_mmin ml_X4_202 st_J9_min_7cf53 ini_J9 co_Math_min (Nat.le_of_ble_eq_true rfl) (Nat.le_of_ble_eq_true rfl) ⟨Nat.le_of_ble_eq_true rfl, Nat.le_of_ble_eq_true rfl⟩ dX4_favourBehindSeen_65 ?_
        refine bw_mmax ml_X4_207 st_J9_max_7cf53 ini_J9 co_Math_max (Nat.le_of_ble_eq_true rfl) (Nat.le_of_ble_eq_true rfl) ⟨Nat.le_of_ble_eq_true rfl, Nat.le_of_ble_eq_true rfl⟩ dX4_favourBehindSeen_68 ?_
        refine bw_istore_n [(3, .int ((if (-99) < (if (x3 + q_11) < 99 then (x3 + q_11) else 99) then (if (x3 + q_11) < 99 then (x3 + q_11) else 99) else (-99)))), (0, .ref ah), (1, .int x1), (2, .int x2), (4, .int x4)] dX4_favourBehindSeen_71 rfl (by decide) rfl ?_
        refine bw_iinc 4 (x4 + 1) [(4, .int ((x4 + 1))), (3, .int ((if (-99) < (if (x3 + q_11) < 99 then (x3 + q_11) else 99) then (if (x3 + q_11) < 99 then (x3 + q_11) else 99) else (-99)))), (0, .ref ah), (1, .int x1), (2, .int x2)] dX4_favourBehindSeen_72 rfl rfl (by decide) rfl ?_
        refine bw_goto 26 dX4_favourBehindSeen_75 (by decide) ?_
        refine bw_lv [2, 3, 4, 1, 0] rfl ?_
        exact ih vh_court_bows vh_court_given vh_court_taken vh_court_settings vh_court_favours vh_seen_groups vh_seen_kept vh_seen_flourishes vh_seen_longGroups vh_seen_reason vh_seen_sentences vh_seen_left x1 x2 ((if (-99) < (if (x3 + q_11) < 99 then (x3 + q_11) else 99) then (if (x3 + q_11) < 99 then (x3 + q_11) else 99) else (-99))) ((x4 + 1)) _ hf
theorem ar_X4_favourBehindSeen : yX4_favourBehindSeen.cls ≠ "java/lang/invoke/MethodHandle" ∧ yX4_favourBehindSeen.cls ≠ "java/lang/invoke/VarHandle" ∧ (parseMethodDescriptor yX4_favourBehindSeen.desc).map (fun d => d.parameters.length) = some 2 := ⟨by decide, by decide, by decide +kernel⟩
def f_X4_favourBehindSeen (vh_court_settings : Nat → Int32) (vh_court_favours : Nat → Int32) (vh_seen_sentences : Int32) (vh_seen_left : Nat → Int32) (p0 : Int32) (p1 : Int32) : Option (Int32) := ((f_X4_favourIndex p0 p1).bind fun q_12 => ((f_X4_at 36 vh_court_favours q_12).bind fun q_13 => (if p0 = p1 then some q_13 else (f_X4_favourBehindSeen_L26 bw_F vh_court_settings vh_court_favours vh_seen_sentences vh_seen_left p0 p1 q_13 0))))
set_option maxHeartbeats 4000000 in
set_option maxRecDepth 100000 in
theorem s_X4_favourBehindSeen (l : Launch) (g : bwG) (ah ah_court ah_pad ah_history ah_slots ah_seen ah_plain ah_trial ah_court_settings ah_court_eyes ah_court_favours ah_court_numbers ah_court_pauses ah_seen_words ah_seen_left : Nat) (vh_court_bows : Int32) (vh_court_given : Int32) (vh_court_taken : Int32) (vh_court_settings : Nat → Int32) (vh_court_favours : Nat → Int32) (vh_seen_groups : Int32) (vh_seen_kept : Int32) (vh_seen_flourishes : Int32) (vh_seen_longGroups : Int32) (vh_seen_reason : Int32) (vh_seen_sentences : Int32) (vh_seen_left : Nat → Int32) (p0 : Int32) (p1 : Int32) (res : Int32) (hf : f_X4_favourBehindSeen vh_court_settings vh_court_favours vh_seen_sentences vh_seen_left p0 p1 = some res) : bwS l g yX4_favourBehindSeen cX4_favourBehindSeen 5 (some .int) ({ frames := 3, cells := 0, slots := 0, locals := 67 } : Room) [.ref ah, .int p0, .int p1] ([(ah, .inr (4, [.ref ah_court, .ref ah_pad, .ref ah_history, .ref ah_slots, .ref ah_seen, .ref ah_plain, .ref ah_trial])), (ah_court, .inr (0, [.ref ah_court_settings, .ref ah_court_eyes, .ref ah_court_favours, .ref ah_court_numbers, .ref ah_court_pauses, .int vh_court_bows, .int vh_court_given, .int vh_court_taken])), (ah_court_settings, .inl (g.2.1, 3, .inl vh_court_settings)), (ah_court_favours, .inl (g.2.1, 36, .inl vh_court_favours)), (ah_seen, .inr (3, [.ref ah_seen_words, .int vh_seen_groups, .ref ah_seen_left, .int vh_seen_kept, .int vh_seen_flourishes, .int vh_seen_longGroups, .int vh_seen_reason, .int vh_seen_sentences])), (ah_seen_left, .inl (g.2.1, 24, .inl vh_seen_left))]) (fun r w => r = some (.int res) ∧ w = [(ah, .inr (4, [.ref ah_court, .ref ah_pad, .ref ah_history, .ref ah_slots, .ref ah_seen, .ref ah_plain, .ref ah_trial])), (ah_court, .inr (0, [.ref ah_court_settings, .ref ah_court_eyes, .ref ah_court_favours, .ref ah_court_numbers, .ref ah_court_pauses, .int vh_court_bows, .int vh_court_given, .int vh_court_taken])), (ah_court_settings, .inl (g.2.1, 3, .inl vh_court_settings)), (ah_court_favours, .inl (g.2.1, 36, .inl vh_court_favours)), (ah_seen, .inr (3, [.ref ah_seen_words, .int vh_seen_groups, .ref ah_seen_left, .int vh_seen_kept, .int vh_seen_flourishes, .int vh_seen_longGroups, .int vh_seen_reason, .int vh_seen_sentences])), (ah_seen_left, .inl (g.2.1, 24, .inl vh_seen_left))]) := by
  refine bwS_of (by decide) (Nat.le_of_ble_eq_true rfl) ?_
  unfold f_X4_favourBehindSeen at hf
  show bwR l g cX4_favourBehindSeen 5 RX4 "favourBehindSeen" (some .int) ({ frames := 3, cells := 0, slots := 0, locals := 67 } : Room) bwT (bwZ g (fun r w => r = some (.int res) ∧ w = [(ah, .inr (4, [.ref ah_court, .ref ah_pad, .ref ah_history, .ref ah_slots, .ref ah_seen, .ref ah_plain, .ref ah_trial])), (ah_court, .inr (0, [.ref ah_court_settings, .ref ah_court_eyes, .ref ah_court_favours, .ref ah_court_numbers, .ref ah_court_pauses, .int vh_court_bows, .int vh_court_given, .int vh_court_taken])), (ah_court_settings, .inl (g.2.1, 3, .inl vh_court_settings)), (ah_court_favours, .inl (g.2.1, 36, .inl vh_court_favours)), (ah_seen, .inr (3, [.ref ah_seen_words, .int vh_seen_groups, .ref ah_seen_left, .int vh_seen_kept, .int vh_seen_flourishes, .int vh_seen_longGroups, .int vh_seen_reason, .int vh_seen_sentences])), (ah_seen_left, .inl (g.2.1, 24, .inl vh_seen_left))]) 0 0) 0 [(0, .ref ah), (1, .int p0), (2, .int p1)] [] ([(ah, .inr (4, [.ref ah_court, .ref ah_pad, .ref ah_history, .ref ah_slots, .ref ah_seen, .ref ah_plain, .ref ah_trial])), (ah_court, .inr (0, [.ref ah_court_settings, .ref ah_court_eyes, .ref ah_court_favours, .ref ah_court_numbers, .ref ah_court_pauses, .int vh_court_bows, .int vh_court_given, .int vh_court_taken])), (ah_court_settings, .inl (g.2.1, 3, .inl vh_court_settings)), (ah_court_favours, .inl (g.2.1, 36, .inl vh_court_favours)), (ah_seen, .inr (3, [.ref ah_seen_words, .int vh_seen_groups, .ref ah_seen_left, .int vh_seen_kept, .int vh_seen_flourishes, .int vh_seen_longGroups, .int vh_seen_reason, .int vh_seen_sentences])), (ah_seen_left, .inl (g.2.1, 24, .inl vh_seen_left))]) 0 0
  refine bw_aload_n 0 dX4_favourBehindSeen_0 rfl rfl ?_
  refine bw_gf bkX4 0 0 (by decide) fl_X4_10 rfl rfl dX4_favourBehindSeen_1 ?_
  refine bw_gf bkX0 1 2 (by decide) fl_X4_111 rfl rfl dX4_favourBehindSeen_4 ?_
  refine bw_iload_n 1 dX4_favourBehindSeen_7 rfl rfl ?_
  refine bw_iload_n 2 dX4_favourBehindSeen_8 rfl rfl ?_
  obtain ⟨q_12, hc_12, hf⟩ := bw_bind hf
  refine bw_callS [.int p0, .int p1] [.ref ah_court_favours] [(ah, .inr (4, [.ref ah_court, .ref ah_pad, .ref ah_history, .ref ah_slots, .ref ah_seen, .ref ah_plain, .ref ah_trial])), (ah_court, .inr (0, [.ref ah_court_settings, .ref ah_court_eyes, .ref ah_court_favours, .ref ah_court_numbers, .ref ah_court_pauses, .int vh_court_bows, .int vh_court_given, .int vh_court_taken])), (ah_court_settings, .inl (g.2.1, 3, .inl vh_court_settings)), (ah_court_favours, .inl (g.2.1, 36, .inl vh_court_favours)), (ah_seen, .inr (3, [.ref ah_seen_words, .int vh_seen_groups, .ref ah_seen_left, .int vh_seen_kept, .int vh_seen_flourishes, .int vh_seen_longGroups, .int vh_seen_reason, .int vh_seen_sentences])), (ah_seen_left, .inl (g.2.1, 24, .inl vh_seen_left))] (s_X4_favourIndex l g   p0 p1 _ hc_12) rfl co_X4_favourIndex ini_X4 ml_X4_114 st_X4_favourIndex ar_X4_favourIndex ⟨Nat.le_of_ble_eq_true rfl, Nat.le_of_ble_eq_true rfl⟩ ⟨Nat.le_of_ble_eq_true rfl, Nat.le_of_ble_eq_true rfl⟩ (bw_pick1 6 [0, 1, 2, 3, 4, 5] rfl rfl (by decide)) (Nat.le_of_ble_eq_true rfl) dX4_favourBehindSeen_9 (fun r w1 hq => ?_)
  obtain ⟨rfl, rfl⟩ := hq
  refine bw_perm (ws1 := [(ah, .inr (4, [.ref ah_court, .ref ah_pad, .ref ah_history, .ref ah_slots, .ref ah_seen, .ref ah_plain, .ref ah_trial])), (ah_court, .inr (0, [.ref ah_court_settings, .ref ah_court_eyes, .ref ah_court_favours, .ref ah_court_numbers, .ref ah_court_pauses, .int vh_court_bows, .int vh_court_given, .int vh_court_taken])), (ah_court_settings, .inl (g.2.1, 3, .inl vh_court_settings)), (ah_court_favours, .inl (g.2.1, 36, .inl vh_court_favours)), (ah_seen, .inr (3, [.ref ah_seen_words, .int vh_seen_groups, .ref ah_seen_left, .int vh_seen_kept, .int vh_seen_flourishes, .int vh_seen_longGroups, .int vh_seen_reason, .int vh_seen_sentences])), (ah_seen_left, .inl (g.2.1, 24, .inl vh_seen_left))]) (bw_pick1 6 [0, 1, 2, 3, 4, 5] rfl rfl (by decide)) ?_
  refine bw_st (st1 := [.int q_12, .ref ah_court_favours]) rfl ?_
  obtain ⟨q_13, hc_13, hf⟩ := bw_bind hf
  refine bw_callS [.ref ah_court_favours, .int q_12] [] [(ah, .inr (4, [.ref ah_court, .ref ah_pad, .ref ah_history, .ref ah_slots, .ref ah_seen, .ref ah_plain, .ref ah_trial])), (ah_court, .inr (0, [.ref ah_court_settings, .ref ah_court_eyes, .ref ah_court_favours, .ref ah_court_numbers, .ref ah_court_pauses, .int vh_court_bows, .int vh_court_given, .int vh_court_taken])), (ah_court_settings, .inl (g.2.1, 3, .inl vh_court_settings)), (ah_seen, .inr (3, [.ref ah_seen_words, .int vh_seen_groups, .ref ah_seen_left, .int vh_seen_kept, .int vh_seen_flourishes, .int vh_seen_longGroups, .int vh_seen_reason, .int vh_seen_sentences])), (ah_seen_left, .inl (g.2.1, 24, .inl vh_seen_left))] (s_X4_at l g ah_court_favours 36 vh_court_favours q_12 _ hc_13) rfl co_X4_at ini_X4 ml_X4_145 st_X4_at ar_X4_at ⟨Nat.le_of_ble_eq_true rfl, Nat.le_of_ble_eq_true rfl⟩ ⟨Nat.le_of_ble_eq_true rfl, Nat.le_of_ble_eq_true rfl⟩ (bw_pick1 6 [3, 0, 1, 2, 4, 5] rfl rfl (by decide)) (Nat.le_of_ble_eq_true rfl) dX4_favourBehindSeen_12 (fun r w1 hq => ?_)
  obtain ⟨rfl, rfl⟩ := hq
  refine bw_perm (ws1 := [(ah, .inr (4, [.ref ah_court, .ref ah_pad, .ref ah_history, .ref ah_slots, .ref ah_seen, .ref ah_plain, .ref ah_trial])), (ah_court, .inr (0, [.ref ah_court_settings, .ref ah_court_eyes, .ref ah_court_favours, .ref ah_court_numbers, .ref ah_court_pauses, .int vh_court_bows, .int vh_court_given, .int vh_court_taken])), (ah_court_settings, .inl (g.2.1, 3, .inl vh_court_settings)), (ah_court_favours, .inl (g.2.1, 36, .inl vh_court_favours)), (ah_seen, .inr (3, [.ref ah_seen_words, .int vh_seen_groups, .ref ah_seen_left, .int vh_seen_kept, .int vh_seen_flourishes, .int vh_seen_longGroups, .int vh_seen_reason, .int vh_seen_sentences])), (ah_seen_left, .inl (g.2.1, 24, .inl vh_seen_left))]) (bw_pick1 6 [0, 1, 2, 5, 3, 4] rfl rfl (by decide)) ?_
  refine bw_st (st1 := [.int q_13]) rfl ?_
  refine bw_istore_n [(3, .int q_13), (0, .ref ah), (1, .int p0), (2, .int p1)] dX4_favourBehindSeen_15 rfl (by decide) rfl ?_
  refine bw_iload_n 2 dX4_favourBehindSeen_16 rfl rfl ?_
  refine bw_iload_n 3 dX4_favourBehindSeen_17 rfl rfl ?_
  refine bw_icmp_ne 23 dX4_favourBehindSeen_18 (by decide) (fun c_14 => ?_) (fun c_14 => ?_)
  · have hf := bw_neg c_14 hf
    refine bw_iconst 0 dX4_favourBehindSeen_23 (by decide) ?_
    refine bw_istore [(4, .int 0), (3, .int q_13), (0, .ref ah), (1, .int p0), (2, .int p1)] dX4_favourBehindSeen_24 (by decide) rfl ?_
    refine bw_lv [2, 3, 4, 1, 0] rfl ?_
    exact s_X4_favourBehindSeen_L26 l g ah ah_court ah_pad ah_history ah_slots ah_seen ah_plain ah_trial ah_court_settings ah_court_eyes ah_court_favours ah_court_numbers ah_court_pauses ah_seen_words ah_seen_left bw_F vh_court_bows vh_court_given vh_court_taken vh_court_settings vh_court_favours vh_seen_groups vh_seen_kept vh_seen_flourishes vh_seen_longGroups vh_seen_reason vh_seen_sentences vh_seen_left p0 p1 q_13 0 _ hf
  · have hf := bw_pos c_14 hf
    refine bw_iload_n 0 dX4_favourBehindSeen_21 rfl rfl ?_
    cases Option.some.inj hf
    exact bw_ret rfl rfl (Nat.le_of_ble_eq_true rfl) (Nat.le_of_ble_eq_true rfl) dX4_favourBehindSeen_22 ⟨rfl, rfl⟩
theorem ar_X4_ifGiven : yX4_ifGiven.cls ≠ "java/lang/invoke/MethodHandle" ∧ yX4_ifGiven.cls ≠ "java/lang/invoke/VarHandle" ∧ (parseMethodDescriptor yX4_ifGiven.desc).map (fun d => d.parameters.length) = some 2 := ⟨by decide, by decide, by decide +kernel⟩
def f_X4_ifGiven (vh_court_bows : Int32) (vh_court_settings : Nat → Int32) (vh_court_eyes : Nat → Int32) (vh_court_favours : Nat → Int32) (vh_court_numbers : Nat → Int32) (vh_court_pauses : Nat → Int32) (vh_seen_groups : Int32) (vh_seen_kept : Int32) (vh_seen_flourishes : Int32) (vh_seen_longGroups : Int32) (vh_seen_reason : Int32) (vh_seen_sentences : Int32) (vh_seen_words : Nat → Int32) (vh_seen_left : Nat → Int32) (vh_plain_groups : Int32) (vh_plain_kept : Int32) (vh_plain_flourishes : Int32) (vh_plain_longGroups : Int32) (vh_plain_reason : Int32) (vh_plain_sentences : Int32) (vh_plain_words : Nat → Int32) (vh_plain_left : Nat → Int32) (p0 : Int32) (p1 : Int32) : Option (Int32 × (Int32) × (Int32) × (Int32) × (Int32) × (Int32) × (Int32) × (Nat → Int32) × (Nat → Int32) × (Int32) × (Int32) × (Int32) × (Int32) × (Int32) × (Int32) × (Nat → Int32) × (Nat → Int32)) := ((f_X4_isCourtier p0).bind fun q_9 => (if q_9 = 0 then some ((-1000001), vh_seen_groups, vh_seen_kept, vh_seen_flourishes, vh_seen_longGroups, vh_seen_reason, vh_seen_sentences, vh_seen_words, vh_seen_left, vh_plain_groups, vh_plain_kept, vh_plain_flourishes, vh_plain_longGroups, vh_plain_reason, vh_plain_sentences, vh_plain_words, vh_plain_left) else ((f_X4_isCourtier p1).bind fun q_11 => (if q_11 = 0 then some ((-1000001), vh_seen_groups, vh_seen_kept, vh_seen_flourishes, vh_seen_longGroups, vh_seen_reason, vh_seen_sentences, vh_seen_words, vh_seen_left, vh_plain_groups, vh_plain_kept, vh_plain_flourishes, vh_plain_longGroups, vh_plain_reason, vh_plain_sentences, vh_plain_words, vh_plain_left) else ((f_X4_canBeGiven vh_court_bows vh_court_settings vh_court_numbers vh_court_pauses vh_plain_groups vh_plain_kept vh_plain_flourishes vh_plain_longGroups vh_plain_reason vh_plain_sentences vh_plain_words vh_plain_left).bind fun q_13 => (if q_13.1 = 0 then some ((-1000005), vh_seen_groups, vh_seen_kept, vh_seen_flourishes, vh_seen_longGroups, vh_seen_reason, vh_seen_sentences, vh_seen_words, vh_seen_left, q_13.2.1, q_13.2.2.1, q_13.2.2.2.1, q_13.2.2.2.2.1, q_13.2.2.2.2.2.1, q_13.2.2.2.2.2.2.1, q_13.2.2.2.2.2.2.2.1, q_13.2.2.2.2.2.2.2.2) else ((f_X4_lookThroughEyesOf vh_court_bows vh_court_settings vh_court_eyes vh_court_numbers vh_court_pauses vh_seen_groups vh_seen_kept vh_seen_flourishes vh_seen_longGroups vh_seen_reason vh_seen_sentences vh_seen_words vh_seen_left p0).bind fun q_15 => ((f_X4_favourBehindSeen vh_court_settings vh_court_favours q_15.2.2.2.2.2.1 q_15.2.2.2.2.2.2.2 p0 p1).bind fun q_16 => some (q_16, q_15.1, q_15.2.1, q_15.2.2.1, q_15.2.2.2.1, q_15.2.2.2.2.1, q_15.2.2.2.2.2.1, q_15.2.2.2.2.2.2.1, q_15.2.2.2.2.2.2.2, q_13.2.1, q_13.2.2.1, q_13.2.2.2.1, q_13.2.2.2.2.1, q_13.2.2.2.2.2.1, q_13.2.2.2.2.2.2.1, q_13.2.2.2.2.2.2.2.1, q_13.2.2.2.2.2.2.2.2)))))))))
set_option maxHeartbeats 4000000 in
set_option maxRecDepth 100000 in
theorem s_X4_ifGiven (l : Launch) (g : bwG) (ah ah_court ah_pad ah_history ah_slots ah_seen ah_plain ah_trial ah_court_settings ah_court_eyes ah_court_favours ah_court_numbers ah_court_pauses ah_seen_words ah_seen_left ah_plain_words ah_plain_left : Nat) (vh_court_bows : Int32) (vh_court_given : Int32) (vh_court_taken : Int32) (vh_court_settings : Nat → Int32) (vh_court_eyes : Nat → Int32) (vh_court_favours : Nat → Int32) (vh_court_numbers : Nat → Int32) (vh_court_pauses : Nat → Int32) (vh_seen_groups : Int32) (vh_seen_kept : Int32) (vh_seen_flourishes : Int32) (vh_seen_longGroups : Int32) (vh_seen_reason : Int32) (vh_seen_sentences : Int32) (vh_seen_words : Nat → Int32) (vh_seen_left : Nat → Int32) (vh_plain_groups : Int32) (vh_plain_kept : Int32) (vh_plain_flourishes : Int32) (vh_plain_longGroups : Int32) (vh_plain_reason : Int32) (vh_plain_sentences : Int32) (vh_plain_words : Nat → Int32) (vh_plain_left : Nat → Int32) (p0 : Int32) (p1 : Int32) (res : Int32 × (Int32) × (Int32) × (Int32) × (Int32) × (Int32) × (Int32) × (Nat → Int32) × (Nat → Int32) × (Int32) × (Int32) × (Int32) × (Int32) × (Int32) × (Int32) × (Nat → Int32) × (Nat → Int32)) (hf : f_X4_ifGiven vh_court_bows vh_court_settings vh_court_eyes vh_court_favours vh_court_numbers vh_court_pauses vh_seen_groups vh_seen_kept vh_seen_flourishes vh_seen_longGroups vh_seen_reason vh_seen_sentences vh_seen_words vh_seen_left vh_plain_groups vh_plain_kept vh_plain_flourishes vh_plain_longGroups vh_plain_reason vh_plain_sentences vh_plain_words vh_plain_left p0 p1 = some res) : bwS l g yX4_ifGiven cX4_ifGiven 3 (some .int) ({ frames := 5, cells := 0, slots := 0, locals := 112 } : Room) [.ref ah, .int p0, .int p1] ([(ah, .inr (4, [.ref ah_court, .ref ah_pad, .ref ah_history, .ref ah_slots, .ref ah_seen, .ref ah_plain, .ref ah_trial])), (ah_court, .inr (0, [.ref ah_court_settings, .ref ah_court_eyes, .ref ah_court_favours, .ref ah_court_numbers, .ref ah_court_pauses, .int vh_court_bows, .int vh_court_given, .int vh_court_taken])), (ah_court_settings, .inl (g.2.1, 3, .inl vh_court_settings)), (ah_court_eyes, .inl (g.2.1, 6, .inl vh_court_eyes)), (ah_court_favours, .inl (g.2.1, 36, .inl vh_court_favours)), (ah_court_numbers, .inl (g.2.1, 24, .inl vh_court_numbers)), (ah_court_pauses, .inl (g.2.1, 24, .inl vh_court_pauses)), (ah_seen, .inr (3, [.ref ah_seen_words, .int vh_seen_groups, .ref ah_seen_left, .int vh_seen_kept, .int vh_seen_flourishes, .int vh_seen_longGroups, .int vh_seen_reason, .int vh_seen_sentences])), (ah_seen_words, .inl (g.2.1, 24, .inl vh_seen_words)), (ah_seen_left, .inl (g.2.1, 24, .inl vh_seen_left)), (ah_plain, .inr (3, [.ref ah_plain_words, .int vh_plain_groups, .ref ah_plain_left, .int vh_plain_kept, .int vh_plain_flourishes, .int vh_plain_longGroups, .int vh_plain_reason, .int vh_plain_sentences])), (ah_plain_words, .inl (g.2.1, 24, .inl vh_plain_words)), (ah_plain_left, .inl (g.2.1, 24, .inl vh_plain_left))]) (fun r w => r = some (.int res.1) ∧ w = [(ah, .inr (4, [.ref ah_court, .ref ah_pad, .ref ah_history, .ref ah_slots, .ref ah_seen, .ref ah_plain, .ref ah_trial])), (ah_court, .inr (0, [.ref ah_court_settings, .ref ah_court_eyes, .ref ah_court_favours, .ref ah_court_numbers, .ref ah_court_pauses, .int vh_court_bows, .int vh_court_given, .int vh_court_taken])), (ah_court_settings, .inl (g.2.1, 3, .inl vh_court_settings)), (ah_court_eyes, .inl (g.2.1, 6, .inl vh_court_eyes)), (ah_court_favours, .inl (g.2.1, 36, .inl vh_court_favours)), (ah_court_numbers, .inl (g.2.1, 24, .inl vh_court_numbers)), (ah_court_pauses, .inl (g.2.1, 24, .inl vh_court_pauses)), (ah_seen, .inr (3, [.ref ah_seen_words, .int res.2.1, .ref ah_seen_left, .int res.2.2.1, .int res.2.2.2.1, .int res.2.2.2.2.1, .int res.2.2.2.2.2.1, .int res.2.2.2.2.2.2.1])), (ah_seen_words, .inl (g.2.1, 24, .inl res.2.2.2.2.2.2.2.1)), (ah_seen_left, .inl (g.2.1, 24, .inl res.2.2.2.2.2.2.2.2.1)), (ah_plain, .inr (3, [.ref ah_plain_words, .int res.2.2.2.2.2.2.2.2.2.1, .ref ah_plain_left, .int res.2.2.2.2.2.2.2.2.2.2.1, .int res.2.2.2.2.2.2.2.2.2.2.2.1, .int res.2.2.2.2.2.2.2.2.2.2.2.2.1, .int res.2.2.2.2.2.2.2.2.2.2.2.2.2.1, .int res.2.2.2.2.2.2.2.2.2.2.2.2.2.2.1])), (ah_plain_words, .inl (g.2.1, 24, .inl res.2.2.2.2.2.2.2.2.2.2.2.2.2.2.2.1)), (ah_plain_left, .inl (g.2.1, 24, .inl res.2.2.2.2.2.2.2.2.2.2.2.2.2.2.2.2))]) := by
  refine bwS_of (by decide) (Nat.le_of_ble_eq_true rfl) ?_
  unfold f_X4_ifGiven at hf
  show bwR l g cX4_ifGiven 3 RX4 "ifGiven" (some .int) ({ frames := 5, cells := 0, slots := 0, locals := 112 } : Room) bwT (bwZ g (fun r w => r = some (.int res.1) ∧ w = [(ah, .inr (4, [.ref ah_court, .ref ah_pad, .ref ah_history, .ref ah_slots, .ref ah_seen, .ref ah_plain, .ref ah_trial])), (ah_court, .inr (0, [.ref ah_court_settings, .ref ah_court_eyes, .ref ah_court_favours, .ref ah_court_numbers, .ref ah_court_pauses, .int vh_court_bows, .int vh_court_given, .int vh_court_taken])), (ah_court_settings, .inl (g.2.1, 3, .inl vh_court_settings)), (ah_court_eyes, .inl (g.2.1, 6, .inl vh_court_eyes)), (ah_court_favours, .inl (g.2.1, 36, .inl vh_court_favours)), (ah_court_numbers, .inl (g.2.1, 24, .inl vh_court_numbers)), (ah_court_pauses, .inl (g.2.1, 24, .inl vh_court_pauses)), (ah_seen, .inr (3, [.ref ah_seen_words, .int res.2.1, .ref ah_seen_left, .int res.2.2.1, .int res.2.2.2.1, .int res.2.2.2.2.1, .int res.2.2.2.2.2.1, .int res.2.2.2.2.2.2.1])), (ah_seen_words, .inl (g.2.1, 24, .inl res.2.2.2.2.2.2.2.1)), (ah_seen_left, .inl (g.2.1, 24, .inl res.2.2.2.2.2.2.2.2.1)), (ah_plain, .inr (3, [.ref ah_plain_words, .int res.2.2.2.2.2.2.2.2.2.1, .ref ah_plain_left, .int res.2.2.2.2.2.2.2.2.2.2.1, .int res.2.2.2.2.2.2.2.2.2.2.2.1, .int res.2.2.2.2.2.2.2.2.2.2.2.2.1, .int res.2.2.2.2.2.2.2.2.2.2.2.2.2.1, .int res.2.2.2.2.2.2.2.2.2.2.2.2.2.2.1])), (ah_plain_words, .inl (g.2.1, 24, .inl res.2.2.2.2.2.2.2.2.2.2.2.2.2.2.2.1)), (ah_plain_left, .inl (g.2.1, 24, .inl res.2.2.2.2.2.2.2.2.2.2.2.2.2.2.2.2))]) 0 0) 0 [(0, .ref ah), (1, .int p0), (2, .int p1)] [] ([(ah, .inr (4, [.ref ah_court, .ref ah_pad, .ref ah_history, .ref ah_slots, .ref ah_seen, .ref ah_plain, .ref ah_trial])), (ah_court, .inr (0, [.ref ah_court_settings, .ref ah_court_eyes, .ref ah_court_favours, .ref ah_court_numbers, .ref ah_court_pauses, .int vh_court_bows, .int vh_court_given, .int vh_court_taken])), (ah_court_settings, .inl (g.2.1, 3, .inl vh_court_settings)), (ah_court_eyes, .inl (g.2.1, 6, .inl vh_court_eyes)), (ah_court_favours, .inl (g.2.1, 36, .inl vh_court_favours)), (ah_court_numbers, .inl (g.2.1, 24, .inl vh_court_numbers)), (ah_court_pauses, .inl (g.2.1, 24, .inl vh_court_pauses)), (ah_seen, .inr (3, [.ref ah_seen_words, .int vh_seen_groups, .ref ah_seen_left, .int vh_seen_kept, .int vh_seen_flourishes, .int vh_seen_longGroups, .int vh_seen_reason, .int vh_seen_sentences])), (ah_seen_words, .inl (g.2.1, 24, .inl vh_seen_words)), (ah_seen_left, .inl (g.2.1, 24, .inl vh_seen_left)), (ah_plain, .inr (3, [.ref ah_plain_words, .int vh_plain_groups, .ref ah_plain_left, .int vh_plain_kept, .int vh_plain_flourishes, .int vh_plain_longGroups, .int vh_plain_reason, .int vh_plain_sentences])), (ah_plain_words, .inl (g.2.1, 24, .inl vh_plain_words)), (ah_plain_left, .inl (g.2.1, 24, .inl vh_plain_left))]) 0 0
  refine bw_iload_n 1 dX4_ifGiven_0 rfl rfl ?_
  obtain ⟨q_9, hc_9, hf⟩ := bw_bind hf
  refine bw_callS [.int p0] [] [(ah, .inr (4, [.ref ah_court, .ref ah_pad, .ref ah_history, .ref ah_slots, .ref ah_seen, .ref ah_plain, .ref ah_trial])), (ah_court, .inr (0, [.ref ah_court_settings, .ref ah_court_eyes, .ref ah_court_favours, .ref ah_court_numbers, .ref ah_court_pauses, .int vh_court_bows, .int vh_court_given, .int vh_court_taken])), (ah_court_settings, .inl (g.2.1, 3, .inl vh_court_settings)), (ah_court_eyes, .inl (g.2.1, 6, .inl vh_court_eyes)), (ah_court_favours, .inl (g.2.1, 36, .inl vh_court_favours)), (ah_court_numbers, .inl (g.2.1, 24, .inl vh_court_numbers)), (ah_court_pauses, .inl (g.2.1, 24, .inl vh_court_pauses)), (ah_seen, .inr (3, [.ref ah_seen_words, .int vh_seen_groups, .ref ah_seen_left, .int vh_seen_kept, .int vh_seen_flourishes, .int vh_seen_longGroups, .int vh_seen_reason, .int vh_seen_sentences])), (ah_seen_words, .inl (g.2.1, 24, .inl vh_seen_words)), (ah_seen_left, .inl (g.2.1, 24, .inl vh_seen_left)), (ah_plain, .inr (3, [.ref ah_plain_words, .int vh_plain_groups, .ref ah_plain_left, .int vh_plain_kept, .int vh_plain_flourishes, .int vh_plain_longGroups, .int vh_plain_reason, .int vh_plain_sentences])), (ah_plain_words, .inl (g.2.1, 24, .inl vh_plain_words)), (ah_plain_left, .inl (g.2.1, 24, .inl vh_plain_left))] (s_X4_isCourtier l g   p0 _ hc_9) rfl co_X4_isCourtier ini_X4 ml_X4_56 st_X4_isCourtier ar_X4_isCourtier ⟨Nat.le_of_ble_eq_true rfl, Nat.le_of_ble_eq_true rfl⟩ ⟨Nat.le_of_ble_eq_true rfl, Nat.le_of_ble_eq_true rfl⟩ (bw_pick1 13 [0, 1, 2, 3, 4, 5, 6, 7, 8, 9, 10, 11, 12] rfl rfl (by decide)) (Nat.le_of_ble_eq_true rfl) dX4_ifGiven_1 (fun r w1 hq => ?_)
  obtain ⟨rfl, rfl⟩ := hq
  refine bw_perm (ws1 := [(ah, .inr (4, [.ref ah_court, .ref ah_pad, .ref ah_history, .ref ah_slots, .ref ah_seen, .ref ah_plain, .ref ah_trial])), (ah_court, .inr (0, [.ref ah_court_settings, .ref ah_court_eyes, .ref ah_court_favours, .ref ah_court_numbers, .ref ah_court_pauses, .int vh_court_bows, .int vh_court_given, .int vh_court_taken])), (ah_court_settings, .inl (g.2.1, 3, .inl vh_court_settings)), (ah_court_eyes, .inl (g.2.1, 6, .inl vh_court_eyes)), (ah_court_favours, .inl (g.2.1, 36, .inl vh_court_favours)), (ah_court_numbers, .inl (g.2.1, 24, .inl vh_court_numbers)), (ah_court_pauses, .inl (g.2.1, 24, .inl vh_court_pauses)), (ah_seen, .inr (3, [.ref ah_seen_words, .int vh_seen_groups, .ref ah_seen_left, .int vh_seen_kept, .int vh_seen_flourishes, .int vh_seen_longGroups, .int vh_seen_reason, .int vh_seen_sentences])), (ah_seen_words, .inl (g.2.1, 24, .inl vh_seen_words)), (ah_seen_left, .inl (g.2.1, 24, .inl vh_seen_left)), (ah_plain, .inr (3, [.ref ah_plain_words, .int vh_plain_groups, .ref ah_plain_left, .int vh_plain_kept, .int vh_plain_flourishes, .int vh_plain_longGroups, .int vh_plain_reason, .int vh_plain_sentences])), (ah_plain_words, .inl (g.2.1, 24, .inl vh_plain_words)), (ah_plain_left, .inl (g.2.1, 24, .inl vh_plain_left))]) (bw_pick1 13 [0, 1, 2, 3, 4, 5, 6, 7, 8, 9, 10, 11, 12] rfl rfl (by decide)) ?_
  refine bw_st (st1 := [.int q_9]) rfl ?_
  refine bw_if_eq 14 dX4_ifGiven_4 (by decide) (fun c_10 => ?_) (fun c_10 => ?_)
  · have hf := bw_pos c_10 hf
    refine bw_ldc ct_X4_60 dX4_ifGiven_14 ?_
    cases Option.some.inj hf
    exact bw_ret rfl rfl (Nat.le_of_ble_eq_true rfl) (Nat.le_of_ble_eq_true rfl) dX4_ifGiven_16 ⟨rfl, rfl⟩
  · have hf := bw_neg c_10 hf
    refine bw_iload_n 2 dX4_ifGiven_7 rfl rfl ?_
    obtain ⟨q_11, hc_11, hf⟩ := bw_bind hf
    refine bw_callS [.int p1] [] [(ah, .inr (4, [.ref ah_court, .ref ah_pad, .ref ah_history, .ref ah_slots, .ref ah_seen, .ref ah_plain, .ref ah_trial])), (ah_court, .inr (0, [.ref ah_court_settings, .ref ah_court_eyes, .ref ah_court_favours, .ref ah_court_numbers, .ref ah_court_pauses, .int vh_court_bows, .int vh_court_given, .int vh_court_taken])), (ah_court_settings, .inl (g.2.1, 3, .inl vh_court_settings)), (ah_court_eyes, .inl (g.2.1, 6, .inl vh_court_eyes)), (ah_court_favours, .inl (g.2.1, 36, .inl vh_court_favours)), (ah_court_numbers, .inl (g.2.1, 24, .inl vh_court_numbers)), (ah_court_pauses, .inl (g.2.1, 24, .inl vh_court_pauses)), (ah_seen, .inr (3, [.ref ah_seen_words, .int vh_seen_groups, .ref ah_seen_left, .int vh_seen_kept, .int vh_seen_flourishes, .int vh_seen_longGroups, .int vh_seen_reason, .int vh_seen_sentences])), (ah_seen_words, .inl (g.2.1, 24, .inl vh_seen_words)), (ah_seen_left, .inl (g.2.1, 24, .inl vh_seen_left)), (ah_plain, .inr (3, [.ref ah_plain_words, .int vh_plain_groups, .ref ah_plain_left, .int vh_plain_kept, .int vh_plain_flourishes, .int vh_plain_longGroups, .int vh_plain_reason, .int vh_plain_sentences])), (ah_plain_words, .inl (g.2.1, 24, .inl vh_plain_words)), (ah_plain_left, .inl (g.2.1, 24, .inl vh_plain_left))] (s_X4_isCourtier l g   p1 _ hc_11) rfl co_X4_isCourtier ini_X4 ml_X4_56 st_X4_isCourtier ar_X4_isCourtier ⟨Nat.le_of_ble_eq_true rfl, Nat.le_of_ble_eq_true rfl⟩ ⟨Nat.le_of_ble_eq_true rfl, Nat.le_of_ble_eq_true rfl⟩ (bw_pick1 13 [0, 1, 2, 3, 4, 5, 6, 7, 8, 9, 10, 11, 12] rfl rfl (by decide)) (Nat.le_of_ble_eq_true rfl) dX4_ifGiven_8 (fun r w1 hq => ?_)
    obtain ⟨rfl, rfl⟩ := hq
    refine bw_perm (ws1 := [(ah, .inr (4, [.ref ah_court, .ref ah_pad, .ref ah_history, .ref ah_slots, .ref ah_seen, .ref ah_plain, .ref ah_trial])), (ah_court, .inr (0, [.ref ah_court_settings, .ref ah_court_eyes, .ref ah_court_favours, .ref ah_court_numbers, .ref ah_court_pauses, .int vh_court_bows, .int vh_court_given, .int vh_court_taken])), (ah_court_settings, .inl (g.2.1, 3, .inl vh_court_settings)), (ah_court_eyes, .inl (g.2.1, 6, .inl vh_court_eyes)), (ah_court_favours, .inl (g.2.1, 36, .inl vh_court_favours)), (ah_court_numbers, .inl (g.2.1, 24, .inl vh_court_numbers)), (ah_court_pauses, .inl (g.2.1, 24, .inl vh_court_pauses)), (ah_seen, .inr (3, [.ref ah_seen_words, .int vh_seen_groups, .ref ah_seen_left, .int vh_seen_kept, .int vh_seen_flourishes, .int vh_seen_longGroups, .int vh_seen_reason, .int vh_seen_sentences])), (ah_seen_words, .inl (g.2.1, 24, .inl vh_seen_words)), (ah_seen_left, .inl (g.2.1, 24, .inl vh_seen_left)), (ah_plain, .inr (3, [.ref ah_plain_words, .int vh_plain_groups, .ref ah_plain_left, .int vh_plain_kept, .int vh_plain_flourishes, .int vh_plain_longGroups, .int vh_plain_reason, .int vh_plain_sentences])), (ah_plain_words, .inl (g.2.1, 24, .inl vh_plain_words)), (ah_plain_left, .inl (g.2.1, 24, .inl vh_plain_left))]) (bw_pick1 13 [0, 1, 2, 3, 4, 5, 6, 7, 8, 9, 10, 11, 12] rfl rfl (by decide)) ?_
    refine bw_st (st1 := [.int q_11]) rfl ?_
    refine bw_if_ne 17 dX4_ifGiven_11 (by decide) (fun c_12 => ?_) (fun c_12 => ?_)
    · have hf := bw_neg c_12 hf
      refine bw_aload_n 0 dX4_ifGiven_17 rfl rfl ?_
      obtain ⟨q_13, hc_13, hf⟩ := bw_bind hf
      refine bw_callV [] [] [(ah_court_eyes, .inl (g.2.1, 6, .inl vh_court_eyes)), (ah_court_favours, .inl (g.2.1, 36, .inl vh_court_favours)), (ah_seen, .inr (3, [.ref ah_seen_words, .int vh_seen_groups, .ref ah_seen_left, .int vh_seen_kept, .int vh_seen_flourishes, .int vh_seen_longGroups, .int vh_seen_reason, .int vh_seen_sentences])), (ah_seen_words, .inl (g.2.1, 24, .inl vh_seen_words)), (ah_seen_left, .inl (g.2.1, 24, .inl vh_seen_left))] 0 4 (s_X4_canBeGiven l g ah ah_court ah_pad ah_history ah_slots ah_seen ah_plain ah_trial ah_court_settings ah_court_eyes ah_court_favours ah_court_numbers ah_court_pauses ah_plain_words ah_plain_left vh_court_bows vh_court_given vh_court_taken vh_court_settings vh_court_numbers vh_court_pauses vh_plain_groups vh_plain_kept vh_plain_flourishes vh_plain_longGroups vh_plain_reason vh_plain_sentences vh_plain_words vh_plain_left  _ hc_13) rfl co_X4_canBeGiven ini_X4 ml_X4_100 im_X4_canBeGiven se_X4_canBeGiven ar_X4_canBeGiven ⟨Nat.le_of_ble_eq_true rfl, Nat.le_of_ble_eq_true rfl⟩ ⟨Nat.le_of_ble_eq_true rfl, Nat.le_of_ble_eq_true rfl⟩ rfl rfl (bw_pick1 13 [0, 1, 2, 5, 6, 10, 11, 12, 3, 4, 7, 8, 9] rfl rfl (by decide)) (Nat.le_of_ble_eq_true rfl) dX4_ifGiven_18 (fun r w1 hq => ?_)
      obtain ⟨rfl, rfl⟩ := hq
      refine bw_perm (ws1 := [(ah, .inr (4, [.ref ah_court, .ref ah_pad, .ref ah_history, .ref ah_slots, .ref ah_seen, .ref ah_plain, .ref ah_trial])), (ah_court, .inr (0, [.ref ah_court_settings, .ref ah_court_eyes, .ref ah_court_favours, .ref ah_court_numbers, .ref ah_court_pauses, .int vh_court_bows, .int vh_court_given, .int vh_court_taken])), (ah_court_settings, .inl (g.2.1, 3, .inl vh_court_settings)), (ah_court_eyes, .inl (g.2.1, 6, .inl vh_court_eyes)), (ah_court_favours, .inl (g.2.1, 36, .inl vh_court_favours)), (ah_court_numbers, .inl (g.2.1, 24, .inl vh_court_numbers)), (ah_court_pauses, .inl (g.2.1, 24, .inl vh_court_pauses)), (ah_seen, .inr (3, [.ref ah_seen_words, .int vh_seen_groups, .ref ah_seen_left, .int vh_seen_kept, .int vh_seen_flourishes, .int vh_seen_longGroups, .int vh_seen_reason, .int vh_seen_sentences])), (ah_seen_words, .inl (g.2.1, 24, .inl vh_seen_words)), (ah_seen_left, .inl (g.2.1, 24, .inl vh_seen_left)), (ah_plain, .inr (3, [.ref ah_plain_words, .int q_13.2.1, .ref ah_plain_left, .int q_13.2.2.1, .int q_13.2.2.2.1, .int q_13.2.2.2.2.1, .int q_13.2.2.2.2.2.1, .int q_13.2.2.2.2.2.2.1])), (ah_plain_words, .inl (g.2.1, 24, .inl q_13.2.2.2.2.2.2.2.1)), (ah_plain_left, .inl (g.2.1, 24, .inl q_13.2.2.2.2.2.2.2.2))]) (bw_pick1 13 [5, 6, 7, 0, 1, 8, 9, 2, 3, 4, 10, 11, 12] rfl rfl (by decide)) ?_
      refine bw_st (st1 := [.int q_13.1]) rfl ?_
      refine bw_if_ne 27 dX4_ifGiven_21 (by decide) (fun c_14 => ?_) (fun c_14 => ?_)
      · have hf := bw_neg c_14 hf
        refine bw_aload_n 0 dX4_ifGiven_27 rfl rfl ?_
        refine bw_iload_n 1 dX4_ifGiven_28 rfl rfl ?_
        obtain ⟨q_15, hc_15, hf⟩ := bw_bind hf
        refine bw_callV [.int p0] [] [(ah_court_favours, .inl (g.2.1, 36, .inl vh_court_favours)), (ah_plain, .inr (3, [.ref ah_plain_words, .int q_13.2.1, .ref ah_plain_left, .int q_13.2.2.1, .int q_13.2.2.2.1, .int q_13.2.2.2.2.1, .int q_13.2.2.2.2.2.1, .int q_13.2.2.2.2.2.2.1])), (ah_plain_words, .inl (g.2.1, 24, .inl q_13.2.2.2.2.2.2.2.1)), (ah_plain_left, .inl (g.2.1, 24, .inl q_13.2.2.2.2.2.2.2.2))] 0 4 (s_X4_lookThroughEyesOf l g ah ah_court ah_pad ah_history ah_slots ah_seen ah_plain ah_trial ah_court_settings ah_court_eyes ah_court_favours ah_court_numbers ah_court_pauses ah_seen_words ah_seen_left vh_court_bows vh_court_given vh_court_taken vh_court_settings vh_court_eyes vh_court_numbers vh_court_pauses vh_seen_groups vh_seen_kept vh_seen_flourishes vh_seen_longGroups vh_seen_reason vh_seen_sentences vh_seen_words vh_seen_left p0 _ hc_15) rfl co_X4_lookThroughEyesOf ini_X4 ml_X4_104 im_X4_lookThroughEyesOf se_X4_lookThroughEyesOf ar_X4_lookThroughEyesOf ⟨Nat.le_of_ble_eq_true rfl, Nat.le_of_ble_eq_true rfl⟩ ⟨Nat.le_of_ble_eq_true rfl, Nat.le_of_ble_eq_true rfl⟩ rfl rfl (bw_pick1 13 [0, 1, 2, 3, 5, 6, 7, 8, 9, 4, 10, 11, 12] rfl rfl (by decide)) (Nat.le_of_ble_eq_true rfl) dX4_ifGiven_29 (fun r w1 hq => ?_)
        obtain ⟨rfl, rfl⟩ := hq
        refine bw_perm (ws1 := [(ah, .inr (4, [.ref ah_court, .ref ah_pad, .ref ah_history, .ref ah_slots, .ref ah_seen, .ref ah_plain, .ref ah_trial])), (ah_court, .inr (0, [.ref ah_court_settings, .ref ah_court_eyes, .ref ah_court_favours, .ref ah_court_numbers, .ref ah_court_pauses, .int vh_court_bows, .int vh_court_given, .int vh_court_taken])), (ah_court_settings, .inl (g.2.1, 3, .inl vh_court_settings)), (ah_court_eyes, .inl (g.2.1, 6, .inl vh_court_eyes)), (ah_court_favours, .inl (g.2.1, 36, .inl vh_court_favours)), (ah_court_numbers, .inl (g.2.1, 24, .inl vh_court_numbers)), (ah_court_pauses, .inl (g.2.1, 24, .inl vh_court_pauses)), (ah_seen, .inr (3, [.ref ah_seen_words, .int q_15.1, .ref ah_seen_left, .int q_15.2.1, .int q_15.2.2.1, .int q_15.2.2.2.1, .int q_15.2.2.2.2.1, .int q_15.2.2.2.2.2.1])), (ah_seen_words, .inl (g.2.1, 24, .inl q_15.2.2.2.2.2.2.1)), (ah_seen_left, .inl (g.2.1, 24, .inl q_15.2.2.2.2.2.2.2)), (ah_plain, .inr (3, [.ref ah_plain_words, .int q_13.2.1, .ref ah_plain_left, .int q_13.2.2.1, .int q_13.2.2.2.1, .int q_13.2.2.2.2.1, .int q_13.2.2.2.2.2.1, .int q_13.2.2.2.2.2.2.1])), (ah_plain_words, .inl (g.2.1, 24, .inl q_13.2.2.2.2.2.2.2.1)), (ah_plain_left, .inl (g.2.1, 24, .inl q_13.2.2.2.2.2.2.2.2))]) (bw_pick1 13 [4, 5, 6, 7, 0, 8, 9, 10, 11, 12, 1, 2, 3] rfl rfl (by decide)) ?_
        refine bw_st (st1 := []) rfl ?_
        refine bw_aload_n 0 dX4_ifGiven_32 rfl rfl ?_
        refine bw_iload_n 1 dX4_ifGiven_33 rfl rfl ?_
        refine bw_iload_n 2 dX4_ifGiven_34 rfl rfl ?_
        obtain ⟨q_16, hc_16, hf⟩ := bw_bind hf
        refine bw_callV [.int p0, .int p1] [] [(ah_court_eyes, .inl (g.2.1, 6, .inl vh_court_eyes)), (ah_court_numbers, .inl (g.2.1, 24, .inl vh_court_numbers)), (ah_court_pauses, .inl (g.2.1, 24, .inl vh_court_pauses)), (ah_seen_words, .inl (g.2.1, 24, .inl q_15.2.2.2.2.2.2.1)), (ah_plain, .inr (3, [.ref ah_plain_words, .int q_13.2.1, .ref ah_plain_left, .int q_13.2.2.1, .int q_13.2.2.2.1, .int q_13.2.2.2.2.1, .int q_13.2.2.2.2.2.1, .int q_13.2.2.2.2.2.2.1])), (ah_plain_words, .inl (g.2.1, 24, .inl q_13.2.2.2.2.2.2.2.1)), (ah_plain_left, .inl (g.2.1, 24, .inl q_13.2.2.2.2.2.2.2.2))] 0 4 (s_X4_favourBehindSeen l g ah ah_court ah_pad ah_history ah_slots ah_seen ah_plain ah_trial ah_court_settings ah_court_eyes ah_court_favours ah_court_numbers ah_court_pauses ah_seen_words ah_seen_left vh_court_bows vh_court_given vh_court_taken vh_court_settings vh_court_favours q_15.1 q_15.2.1 q_15.2.2.1 q_15.2.2.2.1 q_15.2.2.2.2.1 q_15.2.2.2.2.2.1 q_15.2.2.2.2.2.2.2 p0 p1 _ hc_16) rfl co_X4_favourBehindSeen ini_X4 ml_X4_117 im_X4_favourBehindSeen se_X4_favourBehindSeen ar_X4_favourBehindSeen ⟨Nat.le_of_ble_eq_true rfl, Nat.le_of_ble_eq_true rfl⟩ ⟨Nat.le_of_ble_eq_true rfl, Nat.le_of_ble_eq_true rfl⟩ rfl rfl (bw_pick1 13 [0, 1, 2, 4, 7, 9, 3, 5, 6, 8, 10, 11, 12] rfl rfl (by decide)) (Nat.le_of_ble_eq_true rfl) dX4_ifGiven_35 (fun r w1 hq => ?_)
        obtain ⟨rfl, rfl⟩ := hq
        refine bw_perm (ws1 := [(ah, .inr (4, [.ref ah_court, .ref ah_pad, .ref ah_history, .ref ah_slots, .ref ah_seen, .ref ah_plain, .ref ah_trial])), (ah_court, .inr (0, [.ref ah_court_settings, .ref ah_court_eyes, .ref ah_court_favours, .ref ah_court_numbers, .ref ah_court_pauses, .int vh_court_bows, .int vh_court_given, .int vh_court_taken])), (ah_court_settings, .inl (g.2.1, 3, .inl vh_court_settings)), (ah_court_eyes, .inl (g.2.1, 6, .inl vh_court_eyes)), (ah_court_favours, .inl (g.2.1, 36, .inl vh_court_favours)), (ah_court_numbers, .inl (g.2.1, 24, .inl vh_court_numbers)), (ah_court_pauses, .inl (g.2.1, 24, .inl vh_court_pauses)), (ah_seen, .inr (3, [.ref ah_seen_words, .int q_15.1, .ref ah_seen_left, .int q_15.2.1, .int q_15.2.2.1, .int q_15.2.2.2.1, .int q_15.2.2.2.2.1, .int q_15.2.2.2.2.2.1])), (ah_seen_words, .inl (g.2.1, 24, .inl q_15.2.2.2.2.2.2.1)), (ah_seen_left, .inl (g.2.1, 24, .inl q_15.2.2.2.2.2.2.2)), (ah_plain, .inr (3, [.ref ah_plain_words, .int q_13.2.1, .ref ah_plain_left, .int q_13.2.2.1, .int q_13.2.2.2.1, .int q_13.2.2.2.2.1, .int q_13.2.2.2.2.2.1, .int q_13.2.2.2.2.2.2.1])), (ah_plain_words, .inl (g.2.1, 24, .inl q_13.2.2.2.2.2.2.2.1)), (ah_plain_left, .inl (g.2.1, 24, .inl q_13.2.2.2.2.2.2.2.2))]) (bw_pick1 13 [7, 8, 9, 0, 10, 1, 2, 11, 3, 12, 4, 5, 6] rfl rfl (by decide)) ?_
        refine bw_st (st1 := [.int q_16]) rfl ?_
        cases Option.some.inj hf
        exact bw_ret rfl rfl (Nat.le_of_ble_eq_true rfl) (Nat.le_of_ble_eq_true rfl) dX4_ifGiven_38 ⟨rfl, rfl⟩
      · have hf := bw_pos c_14 hf
        refine bw_ldc ct_X4_80 dX4_ifGiven_24 ?_
        cases Option.some.inj hf
        exact bw_ret rfl rfl (Nat.le_of_ble_eq_true rfl) (Nat.le_of_ble_eq_true rfl) dX4_ifGiven_26 ⟨rfl, rfl⟩
    · have hf := bw_pos c_12 hf
      refine bw_ldc ct_X4_60 dX4_ifGiven_14 ?_
      cases Option.some.inj hf
      exact bw_ret rfl rfl (Nat.le_of_ble_eq_true rfl) (Nat.le_of_ble_eq_true rfl) dX4_ifGiven_16 ⟨rfl, rfl⟩
def f_X4_bestBow_L51 : Nat → (Int32) → (Int32) → (Int32) → (Nat → Int32) → (Nat → Int32) → (Nat → Int32) → (Nat → Int32) → (Nat → Int32) → (Int32) → (Int32) → (Int32) → (Int32) → (Int32) → (Int32) → (Nat → Int32) → (Nat → Int32) → (Int32) → (Int32) → (Int32) → (Int32) → (Int32) → (Int32) → (Nat → Int32) → (Nat → Int32) → (Int32) → (Int32) → (Int32) → (Nat → Int32) → (Nat → Int32) → (Nat → Int32) → (Nat → Int32) → (Nat → Int32) → (Int32) → (Int32) → (Int32) → Option (Int32 × (Int32) × (Int32) × (Int32) × (Int32) × (Int32) × (Int32) × (Nat → Int32) × (Nat → Int32) × (Int32) × (Int32) × (Int32) × (Int32) × (Int32) × (Int32) × (Nat → Int32) × (Nat → Int32) × (Int32) × (Int32) × (Int32) × (Nat → Int32) × (Nat → Int32) × (Nat → Int32) × (Nat → Int32) × (Nat → Int32))
  | 0, _, _, _, _, _, _, _, _, _, _, _, _, _, _, _, _, _, _, _, _, _, _, _, _, _, _, _, _, _, _, _, _, _, _, _ => none
  | fu + 1, vh_court_bows, vh_court_given, vh_court_taken, vh_court_settings, vh_court_eyes, vh_court_favours, vh_court_numbers, vh_court_pauses, vh_seen_groups, vh_seen_kept, vh_seen_flourishes, vh_seen_longGroups, vh_seen_reason, vh_seen_sentences, vh_seen_words, vh_seen_left, vh_plain_groups, vh_plain_kept, vh_plain_flourishes, vh_plain_longGroups, vh_plain_reason, vh_plain_sentences, vh_plain_words, vh_plain_left, vh_trial_bows, vh_trial_given, vh_trial_taken, vh_trial_settings, vh_trial_eyes, vh_trial_favours, vh_trial_numbers, vh_trial_pauses, x1, x2, x3 => (if 6 ≤ x3 then some (x2, vh_seen_groups, vh_seen_kept, vh_seen_flourishes, vh_seen_longGroups, vh_seen_reason, vh_seen_sentences, vh_seen_words, vh_seen_left, vh_plain_groups, vh_plain_kept, vh_plain_flourishes, vh_plain_longGroups, vh_plain_reason, vh_plain_sentences, vh_plain_words, vh_plain_left, vh_trial_bows, vh_trial_given, vh_trial_taken, vh_trial_settings, vh_trial_eyes, vh_trial_favours, vh_trial_numbers, vh_trial_pauses) else ((f_X0_addBow vh_court_bows vh_trial_numbers vh_trial_pauses x3 0).bind fun q_9 => ((f_X3_look vh_seen_groups vh_seen_kept vh_seen_flourishes vh_seen_longGroups vh_seen_reason vh_seen_sentences vh_seen_words vh_seen_left q_9.1 vh_trial_settings q_9.2.1 q_9.2.2 0).bind fun q_10 => (if q_10.2.2.2.2.2.1 ≤ x1 then (f_X4_bestBow_L51 fu vh_court_bows vh_court_given vh_court_taken vh_court_settings vh_court_eyes vh_court_favours vh_court_numbers vh_court_pauses q_10.1 q_10.2.1 q_10.2.2.1 q_10.2.2.2.1 q_10.2.2.2.2.1 q_10.2.2.2.2.2.1 q_10.2.2.2.2.2.2.1 q_10.2.2.2.2.2.2.2 vh_plain_groups vh_plain_kept vh_plain_flourishes vh_plain_longGroups vh_plain_reason vh_plain_sentences vh_plain_words vh_plain_left q_9.1 vh_trial_given vh_trial_taken vh_trial_settings vh_trial_eyes vh_trial_favours q_9.2.1 q_9.2.2 x1 x2 ((x3 + 1))) else (f_X4_bestBow_L51 fu vh_court_bows vh_court_given vh_court_taken vh_court_settings vh_court_eyes vh_court_favours vh_court_numbers vh_court_pauses q_10.1 q_10.2.1 q_10.2.2.1 q_10.2.2.2.1 q_10.2.2.2.2.1 q_10.2.2.2.2.2.1 q_10.2.2.2.2.2.2.1 q_10.2.2.2.2.2.2.2 vh_plain_groups vh_plain_kept vh_plain_flourishes vh_plain_longGroups vh_plain_reason vh_plain_sentences vh_plain_words vh_plain_left q_9.1 vh_trial_given vh_trial_taken vh_trial_settings vh_trial_eyes vh_trial_favours q_9.2.1 q_9.2.2 q_10.2.2.2.2.2.1 x3 ((x3 + 1)))))))
set_option maxHeartbeats 4000000 in
set_option maxRecDepth 100000 in
theorem s_X4_bestBow_L51 (l : Launch) (g : bwG) (ah ah_court ah_pad ah_history ah_slots ah_seen ah_plain ah_trial ah_court_settings ah_court_eyes ah_court_favours ah_court_numbers ah_court_pauses ah_seen_words ah_seen_left ah_plain_words ah_plain_left ah_trial_settings ah_trial_eyes ah_trial_favours ah_trial_numbers ah_trial_pauses : Nat) (fu : Nat) : ∀ (vh_court_bows : Int32) (vh_court_given : Int32) (vh_court_taken : Int32) (vh_court_settings : Nat → Int32) (vh_court_eyes : Nat → Int32) (vh_court_favours : Nat → Int32) (vh_court_numbers : Nat → Int32) (vh_court_pauses : Nat → Int32) (vh_seen_groups : Int32) (vh_seen_kept : Int32) (vh_seen_flourishes : Int32) (vh_seen_longGroups : Int32) (vh_seen_reason : Int32) (vh_seen_sentences : Int32) (vh_seen_words : Nat → Int32) (vh_seen_left : Nat → Int32) (vh_plain_groups : Int32) (vh_plain_kept : Int32) (vh_plain_flourishes : Int32) (vh_plain_longGroups : Int32) (vh_plain_reason : Int32) (vh_plain_sentences : Int32) (vh_plain_words : Nat → Int32) (vh_plain_left : Nat → Int32) (vh_trial_bows : Int32) (vh_trial_given : Int32) (vh_trial_taken : Int32) (vh_trial_settings : Nat → Int32) (vh_trial_eyes : Nat → Int32) (vh_trial_favours : Nat → Int32) (vh_trial_numbers : Nat → Int32) (vh_trial_pauses : Nat → Int32) (x1 : Int32) (x2 : Int32) (x3 : Int32) (res : Int32 × (Int32) × (Int32) × (Int32) × (Int32) × (Int32) × (Int32) × (Nat → Int32) × (Nat → Int32) × (Int32) × (Int32) × (Int32) × (Int32) × (Int32) × (Int32) × (Nat → Int32) × (Nat → Int32) × (Int32) × (Int32) × (Int32) × (Nat → Int32) × (Nat → Int32) × (Nat → Int32) × (Nat → Int32) × (Nat → Int32)), f_X4_bestBow_L51 fu vh_court_bows vh_court_given vh_court_taken vh_court_settings vh_court_eyes vh_court_favours vh_court_numbers vh_court_pauses vh_seen_groups vh_seen_kept vh_seen_flourishes vh_seen_longGroups vh_seen_reason vh_seen_sentences vh_seen_words vh_seen_left vh_plain_groups vh_plain_kept vh_plain_flourishes vh_plain_longGroups vh_plain_reason vh_plain_sentences vh_plain_words vh_plain_left vh_trial_bows vh_trial_given vh_trial_taken vh_trial_settings vh_trial_eyes vh_trial_favours vh_trial_numbers vh_trial_pauses x1 x2 x3 = some res → bwR l g cX4_bestBow 4 RX4 "bestBow" (some .int) ({ frames := 4, cells := 0, slots := 0, locals := 91 } : Room) bwT (bwZ g (fun r w => r = some (.int res.1) ∧ w = [(ah, .inr (4, [.ref ah_court, .ref ah_pad, .ref ah_history, .ref ah_slots, .ref ah_seen, .ref ah_plain, .ref ah_trial])), (ah_court, .inr (0, [.ref ah_court_settings, .ref ah_court_eyes, .ref ah_court_favours, .ref ah_court_numbers, .ref ah_court_pauses, .int vh_court_bows, .int vh_court_given, .int vh_court_taken])), (ah_court_settings, .inl (g.2.1, 3, .inl vh_court_settings)), (ah_court_eyes, .inl (g.2.1, 6, .inl vh_court_eyes)), (ah_court_favours, .inl (g.2.1, 36, .inl vh_court_favours)), (ah_court_numbers, .inl (g.2.1, 24, .inl vh_court_numbers)), (ah_court_pauses, .inl (g.2.1, 24, .inl vh_court_pauses)), (ah_seen, .inr (3, [.ref ah_seen_words, .int res.2.1, .ref ah_seen_left, .int res.2.2.1, .int res.2.2.2.1, .int res.2.2.2.2.1, .int res.2.2.2.2.2.1, .int res.2.2.2.2.2.2.1])), (ah_seen_words, .inl (g.2.1, 24, .inl res.2.2.2.2.2.2.2.1)), (ah_seen_left, .inl (g.2.1, 24, .inl res.2.2.2.2.2.2.2.2.1)), (ah_plain, .inr (3, [.ref ah_plain_words, .int res.2.2.2.2.2.2.2.2.2.1, .ref ah_plain_left, .int res.2.2.2.2.2.2.2.2.2.2.1, .int res.2.2.2.2.2.2.2.2.2.2.2.1, .int res.2.2.2.2.2.2.2.2.2.2.2.2.1, .int res.2.2.2.2.2.2.2.2.2.2.2.2.2.1, .int res.2.2.2.2.2.2.2.2.2.2.2.2.2.2.1])), (ah_plain_words, .inl (g.2.1, 24, .inl res.2.2.2.2.2.2.2.2.2.2.2.2.2.2.2.1)), (ah_plain_left, .inl (g.2.1, 24, .inl res.2.2.2.2.2.2.2.2.2.2.2.2.2.2.2.2.1)), (ah_trial, .inr (0, [.ref ah_trial_settings, .ref ah_trial_eyes, .ref ah_trial_favours, .ref ah_trial_numbers, .ref ah_trial_pauses, .int res.2.2.2.2.2.2.2.2.2.2.2.2.2.2.2.2.2.1, .int res.2.2.2.2.2.2.2.2.2.2.2.2.2.2.2.2.2.2.1, .int res.2.2.2.2.2.2.2.2.2.2.2.2.2.2.2.2.2.2.2.1])), (ah_trial_settings, .inl (g.2.1, 3, .inl res.2.2.2.2.2.2.2.2.2.2.2.2.2.2.2.2.2.2.2.2.1)), (ah_trial_eyes, .inl (g.2.1, 6, .inl res.2.2.2.2.2.2.2.2.2.2.2.2.2.2.2.2.2.2.2.2.2.1)), (ah_trial_favours, .inl (g.2.1, 36, .inl res.2.2.2.2.2.2.2.2.2.2.2.2.2.2.2.2.2.2.2.2.2.2.1)), (ah_trial_numbers, .inl (g.2.1, 24, .inl res.2.2.2.2.2.2.2.2.2.2.2.2.2.2.2.2.2.2.2.2.2.2.2.1)), (ah_trial_pauses, .inl (g.2.1, 24, .inl res.2.2.2.2.2.2.2.2.2.2.2.2.2.2.2.2.2.2.2.2.2.2.2.2))]) 0 0) 51 [(0, .ref ah), (1, .int x1), (2, .int x2), (3, .int x3)] [] ([(ah, .inr (4, [.ref ah_court, .ref ah_pad, .ref ah_history, .ref ah_slots, .ref ah_seen, .ref ah_plain, .ref ah_trial])), (ah_court, .inr (0, [.ref ah_court_settings, .ref ah_court_eyes, .ref ah_court_favours, .ref ah_court_numbers, .ref ah_court_pauses, .int vh_court_bows, .int vh_court_given, .int vh_court_taken])), (ah_court_settings, .inl (g.2.1, 3, .inl vh_court_settings)), (ah_court_eyes, .inl (g.2.1, 6, .inl vh_court_eyes)), (ah_court_favours, .inl (g.2.1, 36, .inl vh_court_favours)), (ah_court_numbers, .inl (g.2.1, 24, .inl vh_court_numbers)), (ah_court_pauses, .inl (g.2.1, 24, .inl vh_court_pauses)), (ah_seen, .inr (3, [.ref ah_seen_words, .int vh_seen_groups, .ref ah_seen_left, .int vh_seen_kept, .int vh_seen_flourishes, .int vh_seen_longGroups, .int vh_seen_reason, .int vh_seen_sentences])), (ah_seen_words, .inl (g.2.1, 24, .inl vh_seen_words)), (ah_seen_left, .inl (g.2.1, 24, .inl vh_seen_left)), (ah_plain, .inr (3, [.ref ah_plain_words, .int vh_plain_groups, .ref ah_plain_left, .int vh_plain_kept, .int vh_plain_flourishes, .int vh_plain_longGroups, .int vh_plain_reason, .int vh_plain_sentences])), (ah_plain_words, .inl (g.2.1, 24, .inl vh_plain_words)), (ah_plain_left, .inl (g.2.1, 24, .inl vh_plain_left)), (ah_trial, .inr (0, [.ref ah_trial_settings, .ref ah_trial_eyes, .ref ah_trial_favours, .ref ah_trial_numbers, .ref ah_trial_pauses, .int vh_trial_bows, .int vh_trial_given, .int vh_trial_taken])), (ah_trial_settings, .inl (g.2.1, 3, .inl vh_trial_settings)), (ah_trial_eyes, .inl (g.2.1, 6, .inl vh_trial_eyes)), (ah_trial_favours, .inl (g.2.1, 36, .inl vh_trial_favours)), (ah_trial_numbers, .inl (g.2.1, 24, .inl vh_trial_numbers)), (ah_trial_pauses, .inl (g.2.1, 24, .inl vh_trial_pauses))]) 0 0 := by
  induction fu with
  | zero => intro vh_court_bows vh_court_given vh_court_taken vh_court_settings vh_court_eyes vh_court_favours vh_court_numbers vh_court_pauses vh_seen_groups vh_seen_kept vh_seen_flourishes vh_seen_longGroups vh_seen_reason vh_seen_sentences vh_seen_words vh_seen_left vh_plain_groups vh_plain_kept vh_plain_flourishes vh_plain_longGroups vh_plain_reason vh_plain_sentences vh_plain_words vh_plain_left vh_trial_bows vh_trial_given vh_trial_taken vh_trial_settings vh_trial_eyes vh_trial_favours vh_trial_numbers vh_trial_pauses x1 x2 x3 res hf; exact absurd hf (by intro h; cases h)
  | succ fu ih =>
    intro vh_court_bows vh_court_given vh_court_taken vh_court_settings vh_court_eyes vh_court_favours vh_court_numbers vh_court_pauses vh_seen_groups vh_seen_kept vh_seen_flourishes vh_seen_longGroups vh_seen_reason vh_seen_sentences vh_seen_words vh_seen_left vh_plain_groups vh_plain_kept vh_plain_flourishes vh_plain_longGroups vh_plain_reason vh_plain_sentences vh_plain_words vh_plain_left vh_trial_bows vh_trial_given vh_trial_taken vh_trial_settings vh_trial_eyes vh_trial_favours vh_trial_numbers vh_trial_pauses x1 x2 x3 res hf
    rw [f_X4_bestBow_L51] at hf
    refine bw_iload_n 3 dX4_bestBow_51 rfl rfl ?_
    refine bw_bipush 6 dX4_bestBow_52 (by decide) ?_
    refine bw_icmp_ge 119 dX4_bestBow_54 (by decide) (fun c_8 => ?_) (fun c_8 => ?_)
    · have hf := bw_pos c_8 hf
      refine bw_iload_n 2 dX4_bestBow_119 rfl rfl ?_
      cases Option.some.inj hf
      exact bw_ret rfl rfl (Nat.le_of_ble_eq_true rfl) (Nat.le_of_ble_eq_true rfl) dX4_bestBow_120 ⟨rfl, rfl⟩
    · have hf := bw_neg c_8 hf
      refine bw_aload_n 0 dX4_bestBow_57 rfl rfl ?_
      refine bw_gf bkX4 0 6 (by decide) fl_X4_44 rfl rfl dX4_bestBow_58 ?_
      refine bw_aload_n 0 dX4_bestBow_61 rfl rfl ?_
      refine bw_gf bkX4 0 0 (by decide) fl_X4_10 rfl rfl dX4_bestBow_62 ?_
      refine bw_gf bkX0 1 5 (by decide) fl_X4_67 rfl rfl dX4_bestBow_65 ?_
      refine bw_pf bkX0 13 5 ([(ah, .inr (4, [.ref ah_court, .ref ah_pad, .ref ah_history, .ref ah_slots, .ref ah_seen, .ref ah_plain, .ref ah_trial])), (ah_court, .inr (0, [.ref ah_court_settings, .ref ah_court_eyes, .ref ah_court_favours, .ref ah_court_numbers, .ref ah_court_pauses, .int vh_court_bows, .int vh_court_given, .int vh_court_taken])), (ah_court_settings, .inl (g.2.1, 3, .inl vh_court_settings)), (ah_court_eyes, .inl (g.2.1, 6, .inl vh_court_eyes)), (ah_court_favours, .inl (g.2.1, 36, .inl vh_court_favours)), (ah_court_numbers, .inl (g.2.1, 24, .inl vh_court_numbers)), (ah_court_pauses, .inl (g.2.1, 24, .inl vh_court_pauses)), (ah_seen, .inr (3, [.ref ah_seen_words, .int vh_seen_groups, .ref ah_seen_left, .int vh_seen_kept, .int vh_seen_flourishes, .int vh_seen_longGroups, .int vh_seen_reason, .int vh_seen_sentences])), (ah_seen_words, .inl (g.2.1, 24, .inl vh_seen_words)), (ah_seen_left, .inl (g.2.1, 24, .inl vh_seen_left)), (ah_plain, .inr (3, [.ref ah_plain_words, .int vh_plain_groups, .ref ah_plain_left, .int vh_plain_kept, .int vh_plain_flourishes, .int vh_plain_longGroups, .int vh_plain_reason, .int vh_plain_sentences])), (ah_plain_words, .inl (g.2.1, 24, .inl vh_plain_words)), (ah_plain_left, .inl (g.2.1, 24, .inl vh_plain_left)), (ah_trial, .inr (0, [.ref ah_trial_settings, .ref ah_trial_eyes, .ref ah_trial_favours, .ref ah_trial_numbers, .ref ah_trial_pauses, .int vh_court_bows, .int vh_trial_given, .int vh_trial_taken])), (ah_trial_settings, .inl (g.2.1, 3, .inl vh_trial_settings)), (ah_trial_eyes, .inl (g.2.1, 6, .inl vh_trial_eyes)), (ah_trial_favours, .inl (g.2.1, 36, .inl vh_trial_favours)), (ah_trial_numbers, .inl (g.2.1, 24, .inl vh_trial_numbers)), (ah_trial_pauses, .inl (g.2.1, 24, .inl vh_trial_pauses))]) (by decide) fl_X4_67 rfl rfl rfl rfl rfl (Nat.le_of_ble_eq_true rfl) rfl dX4_bestBow_68 ?_
      refine bw_aload_n 0 dX4_bestBow_71 rfl rfl ?_
      refine bw_gf bkX4 0 6 (by decide) fl_X4_44 rfl rfl dX4_bestBow_72 ?_
      refine bw_iload_n 3 dX4_bestBow_75 rfl rfl ?_
      refine bw_iconst 0 dX4_bestBow_76 (by decide) ?_
      obtain ⟨q_9, hc_9, hf⟩ := bw_bind hf
      refine bw_callV [.int x3, .int 0] [] [(ah, .inr (4, [.ref ah_court, .ref ah_pad, .ref ah_history, .ref ah_slots, .ref ah_seen, .ref ah_plain, .ref ah_trial])), (ah_court, .inr (0, [.ref ah_court_settings, .ref ah_court_eyes, .ref ah_court_favours, .ref ah_court_numbers, .ref ah_court_pauses, .int vh_court_bows, .int vh_court_given, .int vh_court_taken])), (ah_court_settings, .inl (g.2.1, 3, .inl vh_court_settings)), (ah_court_eyes, .inl (g.2.1, 6, .inl vh_court_eyes)), (ah_court_favours, .inl (g.2.1, 36, .inl vh_court_favours)), (ah_court_numbers, .inl (g.2.1, 24, .inl vh_court_numbers)), (ah_court_pauses, .inl (g.2.1, 24, .inl vh_court_pauses)), (ah_seen, .inr (3, [.ref ah_seen_words, .int vh_seen_groups, .ref ah_seen_left, .int vh_seen_kept, .int vh_seen_flourishes, .int vh_seen_longGroups, .int vh_seen_reason, .int vh_seen_sentences])), (ah_seen_words, .inl (g.2.1, 24, .inl vh_seen_words)), (ah_seen_left, .inl (g.2.1, 24, .inl vh_seen_left)), (ah_plain, .inr (3, [.ref ah_plain_words, .int vh_plain_groups, .ref ah_plain_left, .int vh_plain_kept, .int vh_plain_flourishes, .int vh_plain_longGroups, .int vh_plain_reason, .int vh_plain_sentences])), (ah_plain_words, .inl (g.2.1, 24, .inl vh_plain_words)), (ah_plain_left, .inl (g.2.1, 24, .inl vh_plain_left)), (ah_trial_settings, .inl (g.2.1, 3, .inl vh_trial_settings)), (ah_trial_eyes, .inl (g.2.1, 6, .inl vh_trial_eyes)), (ah_trial_favours, .inl (g.2.1, 36, .inl vh_trial_favours))] 0 0 (s_X0_addBow l g ah_trial ah_trial_settings ah_trial_eyes ah_trial_favours ah_trial_numbers ah_trial_pauses vh_court_bows vh_trial_given vh_trial_taken vh_trial_numbers vh_trial_pauses x3 0 _ hc_9) rfl co_X0_addBow ini_X0 ml_X4_76 im_X0_addBow se_X0_addBow ar_X0_addBow ⟨Nat.le_of_ble_eq_true rfl, Nat.le_of_ble_eq_true rfl⟩ ⟨Nat.le_of_ble_eq_true rfl, Nat.le_of_ble_eq_true rfl⟩ rfl rfl (bw_pick1 19 [13, 17, 18, 0, 1, 2, 3, 4, 5, 6, 7, 8, 9, 10, 11, 12, 14, 15, 16] rfl rfl (by decide)) (Nat.le_of_ble_eq_true rfl) dX4_bestBow_77 (fun r w1 hq => ?_)
      obtain ⟨rfl, rfl⟩ := hq
      refine bw_perm (ws1 := [(ah, .inr (4, [.ref ah_court, .ref ah_pad, .ref ah_history, .ref ah_slots, .ref ah_seen, .ref ah_plain, .ref ah_trial])), (ah_court, .inr (0, [.ref ah_court_settings, .ref ah_court_eyes, .ref ah_court_favours, .ref ah_court_numbers, .ref ah_court_pauses, .int vh_court_bows, .int vh_court_given, .int vh_court_taken])), (ah_court_settings, .inl (g.2.1, 3, .inl vh_court_settings)), (ah_court_eyes, .inl (g.2.1, 6, .inl vh_court_eyes)), (ah_court_favours, .inl (g.2.1, 36, .inl vh_court_favours)), (ah_court_numbers, .inl (g.2.1, 24, .inl vh_court_numbers)), (ah_court_pauses, .inl (g.2.1, 24, .inl vh_court_pauses)), (ah_seen, .inr (3, [.ref ah_seen_words, .int vh_seen_groups, .ref ah_seen_left, .int vh_seen_kept, .int vh_seen_flourishes, .int vh_seen_longGroups, .int vh_seen_reason, .int vh_seen_sentences])), (ah_seen_words, .inl (g.2.1, 24, .inl vh_seen_words)), (ah_seen_left, .inl (g.2.1, 24, .inl vh_seen_left)), (ah_plain, .inr (3, [.ref ah_plain_words, .int vh_plain_groups, .ref ah_plain_left, .int vh_plain_kept, .int vh_plain_flourishes, .int vh_plain_longGroups, .int vh_plain_reason, .int vh_plain_sentences])), (ah_plain_words, .inl (g.2.1, 24, .inl vh_plain_words)), (ah_plain_left, .inl (g.2.1, 24, .inl vh_plain_left)), (ah_trial, .inr (0, [.ref ah_trial_settings, .ref ah_trial_eyes, .ref ah_trial_favours, .ref ah_trial_numbers, .ref ah_trial_pauses, .int q_9.1, .int vh_trial_given, .int vh_trial_taken])), (ah_trial_settings, .inl (g.2.1, 3, .inl vh_trial_settings)), (ah_trial_eyes, .inl (g.2.1, 6, .inl vh_trial_eyes)), (ah_trial_favours, .inl (g.2.1, 36, .inl vh_trial_favours)), (ah_trial_numbers, .inl (g.2.1, 24, .inl q_9.2.1)), (ah_trial_pauses, .inl (g.2.1, 24, .inl q_9.2.2))]) (bw_pick1 19 [0, 1, 2, 3, 4, 5, 6, 7, 8, 9, 10, 11, 12, 16, 13, 14, 15, 17, 18] rfl rfl (by decide)) ?_
      refine bw_st (st1 := []) rfl ?_
      refine bw_aload_n 0 dX4_bestBow_80 rfl rfl ?_
      refine bw_gf bkX4 0 4 (by decide) fl_X4_37 rfl rfl dX4_bestBow_81 ?_
      refine bw_aload_n 0 dX4_bestBow_84 rfl rfl ?_
      refine bw_gf bkX4 0 6 (by decide) fl_X4_44 rfl rfl dX4_bestBow_85 ?_
      refine bw_iconst 0 dX4_bestBow_88 (by decide) ?_
      obtain ⟨q_10, hc_10, hf⟩ := bw_bind hf
      refine bw_callV [.ref ah_trial, .int 0] [] [(ah, .inr (4, [.ref ah_court, .ref ah_pad, .ref ah_history, .ref ah_slots, .ref ah_seen, .ref ah_plain, .ref ah_trial])), (ah_court, .inr (0, [.ref ah_court_settings, .ref ah_court_eyes, .ref ah_court_favours, .ref ah_court_numbers, .ref ah_court_pauses, .int vh_court_bows, .int vh_court_given, .int vh_court_taken])), (ah_court_settings, .inl (g.2.1, 3, .inl vh_court_settings)), (ah_court_eyes, .inl (g.2.1, 6, .inl vh_court_eyes)), (ah_court_favours, .inl (g.2.1, 36, .inl vh_court_favours)), (ah_court_numbers, .inl (g.2.1, 24, .inl vh_court_numbers)), (ah_court_pauses, .inl (g.2.1, 24, .inl vh_court_pauses)), (ah_plain, .inr (3, [.ref ah_plain_words, .int vh_plain_groups, .ref ah_plain_left, .int vh_plain_kept, .int vh_plain_flourishes, .int vh_plain_longGroups, .int vh_plain_reason, .int vh_plain_sentences])), (ah_plain_words, .inl (g.2.1, 24, .inl vh_plain_words)), (ah_plain_left, .inl (g.2.1, 24, .inl vh_plain_left)), (ah_trial_eyes, .inl (g.2.1, 6, .inl vh_trial_eyes)), (ah_trial_favours, .inl (g.2.1, 36, .inl vh_trial_favours))] 0 3 (s_X3_look l g ah_seen ah_seen_words ah_seen_left ah_trial ah_trial_settings ah_trial_eyes ah_trial_favours ah_trial_numbers ah_trial_pauses vh_seen_groups vh_seen_kept vh_seen_flourishes vh_seen_longGroups vh_seen_reason vh_seen_sentences vh_seen_words vh_seen_left q_9.1 vh_trial_given vh_trial_taken vh_trial_settings q_9.2.1 q_9.2.2 0 _ hc_10) rfl co_X3_look ini_X3 ml_X4_126 im_X3_look se_X3_look ar_X3_look ⟨Nat.le_of_ble_eq_true rfl, Nat.le_of_ble_eq_true rfl⟩ ⟨Nat.le_of_ble_eq_true rfl, Nat.le_of_ble_eq_true rfl⟩ rfl rfl (bw_pick1 19 [7, 8, 9, 13, 14, 17, 18, 0, 1, 2, 3, 4, 5, 6, 10, 11, 12, 15, 16] rfl rfl (by decide)) (Nat.le_of_ble_eq_true rfl) dX4_bestBow_89 (fun r w1 hq => ?_)
      obtain ⟨rfl, rfl⟩ := hq
      refine bw_perm (ws1 := [(ah, .inr (4, [.ref ah_court, .ref ah_pad, .ref ah_history, .ref ah_slots, .ref ah_seen, .ref ah_plain, .ref ah_trial])), (ah_court, .inr (0, [.ref ah_court_settings, .ref ah_court_eyes, .ref ah_court_favours, .ref ah_court_numbers, .ref ah_court_pauses, .int vh_court_bows, .int vh_court_given, .int vh_court_taken])), (ah_court_settings, .inl (g.2.1, 3, .inl vh_court_settings)), (ah_court_eyes, .inl (g.2.1, 6, .inl vh_court_eyes)), (ah_court_favours, .inl (g.2.1, 36, .inl vh_court_favours)), (ah_court_numbers, .inl (g.2.1, 24, .inl vh_court_numbers)), (ah_court_pauses, .inl (g.2.1, 24, .inl vh_court_pauses)), (ah_seen, .inr (3, [.ref ah_seen_words, .int q_10.1, .ref ah_seen_left, .int q_10.2.1, .int q_10.2.2.1, .int q_10.2.2.2.1, .int q_10.2.2.2.2.1, .int q_10.2.2.2.2.2.1])), (ah_seen_words, .inl (g.2.1, 24, .inl q_10.2.2.2.2.2.2.1)), (ah_seen_left, .inl (g.2.1, 24, .inl q_10.2.2.2.2.2.2.2)), (ah_plain, .inr (3, [.ref ah_plain_words, .int vh_plain_groups, .ref ah_plain_left, .int vh_plain_kept, .int vh_plain_flourishes, .int vh_plain_longGroups, .int vh_plain_reason, .int vh_plain_sentences])), (ah_plain_words, .inl (g.2.1, 24, .inl vh_plain_words)), (ah_plain_left, .inl (g.2.1, 24, .inl vh_plain_left)), (ah_trial, .inr (0, [.ref ah_trial_settings, .ref ah_trial_eyes, .ref ah_trial_favours, .ref ah_trial_numbers, .ref ah_trial_pauses, .int q_9.1, .int vh_trial_given, .int vh_trial_taken])), (ah_trial_settings, .inl (g.2.1, 3, .inl vh_trial_settings)), (ah_trial_eyes, .inl (g.2.1, 6, .inl vh_trial_eyes)), (ah_trial_favours, .inl (g.2.1, 36, .inl vh_trial_favours)), (ah_trial_numbers, .inl (g.2.1, 24, .inl q_9.2.1)), (ah_trial_pauses, .inl (g.2.1, 24, .inl q_9.2.2))]) (bw_pick1 19 [0, 1, 2, 3, 4, 5, 6, 12, 13, 14, 7, 8, 9, 15, 16, 10, 11, 17, 18] rfl rfl (by decide)) ?_
      refine bw_st (st1 := []) rfl ?_
      refine bw_aload_n 0 dX4_bestBow_92 rfl rfl ?_
      refine bw_gf bkX4 0 4 (by decide) fl_X4_37 rfl rfl dX4_bestBow_93 ?_
      refine bw_gf bkX3 7 7 (by decide) fl_X4_136 rfl rfl dX4_bestBow_96 ?_
      refine bw_iload_n 1 dX4_bestBow_99 rfl rfl ?_
      refine bw_icmp_le 113 dX4_bestBow_100 (by decide) (fun c_11 => ?_) (fun c_11 => ?_)
      · have hf := bw_pos c_11 hf
        refine bw_iinc 3 (x3 + 1) [(3, .int ((x3 + 1))), (0, .ref ah), (1, .int x1), (2, .int x2)] dX4_bestBow_113 rfl rfl (by decide) rfl ?_
        refine bw_goto 51 dX4_bestBow_116 (by decide) ?_
        refine bw_lv [1, 2, 3, 0] rfl ?_
        exact ih vh_court_bows vh_court_given vh_court_taken vh_court_settings vh_court_eyes vh_court_favours vh_court_numbers vh_court_pauses q_10.1 q_10.2.1 q_10.2.2.1 q_10.2.2.2.1 q_10.2.2.2.2.1 q_10.2.2.2.2.2.1 q_10.2.2.2.2.2.2.1 q_10.2.2.2.2.2.2.2 vh_plain_groups vh_plain_kept vh_plain_flourishes vh_plain_longGroups vh_plain_reason vh_plain_sentences vh_plain_words vh_plain_left q_9.1 vh_trial_given vh_trial_taken vh_trial_settings vh_trial_eyes vh_trial_favours q_9.2.1 q_9.2.2 x1 x2 ((x3 + 1)) _ hf
      · have hf := bw_neg c_11 hf
        refine bw_aload_n 0 dX4_bestBow_103 rfl rfl ?_
        refine bw_gf bkX4 0 4 (by decide) fl_X4_37 rfl rfl dX4_bestBow_104 ?_
        refine bw_gf bkX3 7 7 (by decide) fl_X4_136 rfl rfl dX4_bestBow_107 ?_
        refine bw_istore_n [(1, .int q_10.2.2.2.2.2.1), (0, .ref ah), (2, .int x2), (3, .int x3)] dX4_bestBow_110 rfl (by decide) rfl ?_
        refine bw_iload_n 3 dX4_bestBow_111 rfl rfl ?_
        refine bw_istore_n [(2, .int x3), (1, .int q_10.2.2.2.2.2.1), (0, .ref ah), (3, .int x3)] dX4_bestBow_112 rfl (by decide) rfl ?_
        refine bw_iinc 3 (x3 + 1) [(3, .int ((x3 + 1))), (2, .int x3), (1, .int q_10.2.2.2.2.2.1), (0, .ref ah)] dX4_bestBow_113 rfl rfl (by decide) rfl ?_
        refine bw_goto 51 dX4_bestBow_116 (by decide) ?_
        refine bw_lv [3, 2, 1, 0] rfl ?_
        exact ih vh_court_bows vh_court_given vh_court_taken vh_court_settings vh_court_eyes vh_court_favours vh_court_numbers vh_court_pauses q_10.1 q_10.2.1 q_10.2.2.1 q_10.2.2.2.1 q_10.2.2.2.2.1 q_10.2.2.2.2.2.1 q_10.2.2.2.2.2.2.1 q_10.2.2.2.2.2.2.2 vh_plain_groups vh_plain_kept vh_plain_flourishes vh_plain_longGroups vh_plain_reason vh_plain_sentences vh_plain_words vh_plain_left q_9.1 vh_trial_given vh_trial_taken vh_trial_settings vh_trial_eyes vh_trial_favours q_9.2.1 q_9.2.2 q_10.2.2.2.2.2.1 x3 ((x3 + 1)) _ hf
theorem ar_X4_bestBow : yX4_bestBow.cls ≠ "java/lang/invoke/MethodHandle" ∧ yX4_bestBow.cls ≠ "java/lang/invoke/VarHandle" ∧ (parseMethodDescriptor yX4_bestBow.desc).map (fun d => d.parameters.length) = some 0 := ⟨by decide, by decide, by decide +kernel⟩
def f_X4_bestBow (vh_court_bows : Int32) (vh_court_given : Int32) (vh_court_taken : Int32) (vh_court_settings : Nat → Int32) (vh_court_eyes : Nat → Int32) (vh_court_favours : Nat → Int32) (vh_court_numbers : Nat → Int32) (vh_court_pauses : Nat → Int32) (vh_seen_groups : Int32) (vh_seen_kept : Int32) (vh_seen_flourishes : Int32) (vh_seen_longGroups : Int32) (vh_seen_reason : Int32) (vh_seen_sentences : Int32) (vh_seen_words : Nat → Int32) (vh_seen_left : Nat → Int32) (vh_plain_groups : Int32) (vh_plain_kept : Int32) (vh_plain_flourishes : Int32) (vh_plain_longGroups : Int32) (vh_plain_reason : Int32) (vh_plain_sentences : Int32) (vh_plain_words : Nat → Int32) (vh_plain_left : Nat → Int32) (vh_trial_bows : Int32) (vh_trial_given : Int32) (vh_trial_taken : Int32) (vh_trial_settings : Nat → Int32) (vh_trial_eyes : Nat → Int32) (vh_trial_favours : Nat → Int32) (vh_trial_numbers : Nat → Int32) (vh_trial_pauses : Nat → Int32)  : Option (Int32 × (Int32) × (Int32) × (Int32) × (Int32) × (Int32) × (Int32) × (Nat → Int32) × (Nat → Int32) × (Int32) × (Int32) × (Int32) × (Int32) × (Int32) × (Int32) × (Nat → Int32) × (Nat → Int32) × (Int32) × (Int32) × (Int32) × (Nat → Int32) × (Nat → Int32) × (Nat → Int32) × (Nat → Int32) × (Nat → Int32)) := (if vh_court_bows < 24 then ((f_X3_look vh_plain_groups vh_plain_kept vh_plain_flourishes vh_plain_longGroups vh_plain_reason vh_plain_sentences vh_plain_words vh_plain_left vh_court_bows vh_court_settings vh_court_numbers vh_court_pauses 0).bind fun q_13 => ((f_X0_become vh_trial_bows vh_trial_given vh_trial_taken vh_trial_settings vh_trial_eyes vh_trial_favours vh_trial_numbers vh_trial_pauses vh_court_bows vh_court_given vh_court_taken vh_court_settings vh_court_eyes vh_court_favours vh_court_numbers vh_court_pauses).bind fun q_14 => (f_X4_bestBow_L51 bw_F vh_court_bows vh_court_given vh_court_taken vh_court_settings vh_court_eyes vh_court_favours vh_court_numbers vh_court_pauses vh_seen_groups vh_seen_kept vh_seen_flourishes vh_seen_longGroups vh_seen_reason vh_seen_sentences vh_seen_words vh_seen_left q_13.1 q_13.2.1 q_13.2.2.1 q_13.2.2.2.1 q_13.2.2.2.2.1 q_13.2.2.2.2.2.1 q_13.2.2.2.2.2.2.1 q_13.2.2.2.2.2.2.2 q_14.1 q_14.2.1 q_14.2.2.1 q_14.2.2.2.1 q_14.2.2.2.2.1 q_14.2.2.2.2.2.1 q_14.2.2.2.2.2.2.1 q_14.2.2.2.2.2.2.2 q_13.2.2.2.2.2.1 ((-1000006)) 0))) else some ((-1000006), vh_seen_groups, vh_seen_kept, vh_seen_flourishes, vh_seen_longGroups, vh_seen_reason, vh_seen_sentences, vh_seen_words, vh_seen_left, vh_plain_groups, vh_plain_kept, vh_plain_flourishes, vh_plain_longGroups, vh_plain_reason, vh_plain_sentences, vh_plain_words, vh_plain_left, vh_trial_bows, vh_trial_given, vh_trial_taken, vh_trial_settings, vh_trial_eyes, vh_trial_favours, vh_trial_numbers, vh_trial_pauses))
set_option maxHeartbeats 4000000 in
set_option maxRecDepth 100000 in
theorem s_X4_bestBow (l : Launch) (g : bwG) (ah ah_court ah_pad ah_history ah_slots ah_seen ah_plain ah_trial ah_court_settings ah_court_eyes ah_court_favours ah_court_numbers ah_court_pauses ah_seen_words ah_seen_left ah_plain_words ah_plain_left ah_trial_settings ah_trial_eyes ah_trial_favours ah_trial_numbers ah_trial_pauses : Nat) (vh_court_bows : Int32) (vh_court_given : Int32) (vh_court_taken : Int32) (vh_court_settings : Nat → Int32) (vh_court_eyes : Nat → Int32) (vh_court_favours : Nat → Int32) (vh_court_numbers : Nat → Int32) (vh_court_pauses : Nat → Int32) (vh_seen_groups : Int32) (vh_seen_kept : Int32) (vh_seen_flourishes : Int32) (vh_seen_longGroups : Int32) (vh_seen_reason : Int32) (vh_seen_sentences : Int32) (vh_seen_words : Nat → Int32) (vh_seen_left : Nat → Int32) (vh_plain_groups : Int32) (vh_plain_kept : Int32) (vh_plain_flourishes : Int32) (vh_plain_longGroups : Int32) (vh_plain_reason : Int32) (vh_plain_sentences : Int32) (vh_plain_words : Nat → Int32) (vh_plain_left : Nat → Int32) (vh_trial_bows : Int32) (vh_trial_given : Int32) (vh_trial_taken : Int32) (vh_trial_settings : Nat → Int32) (vh_trial_eyes : Nat → Int32) (vh_trial_favours : Nat → Int32) (vh_trial_numbers : Nat → Int32) (vh_trial_pauses : Nat → Int32)  (res : Int32 × (Int32) × (Int32) × (Int32) × (Int32) × (Int32) × (Int32) × (Nat → Int32) × (Nat → Int32) × (Int32) × (Int32) × (Int32) × (Int32) × (Int32) × (Int32) × (Nat → Int32) × (Nat → Int32) × (Int32) × (Int32) × (Int32) × (Nat → Int32) × (Nat → Int32) × (Nat → Int32) × (Nat → Int32) × (Nat → Int32)) (hf : f_X4_bestBow vh_court_bows vh_court_given vh_court_taken vh_court_settings vh_court_eyes vh_court_favours vh_court_numbers vh_court_pauses vh_seen_groups vh_seen_kept vh_seen_flourishes vh_seen_longGroups vh_seen_reason vh_seen_sentences vh_seen_words vh_seen_left vh_plain_groups vh_plain_kept vh_plain_flourishes vh_plain_longGroups vh_plain_reason vh_plain_sentences vh_plain_words vh_plain_left vh_trial_bows vh_trial_given vh_trial_taken vh_trial_settings vh_trial_eyes vh_trial_favours vh_trial_numbers vh_trial_pauses  = some res) : bwS l g yX4_bestBow cX4_bestBow 4 (some .int) ({ frames := 4, cells := 0, slots := 0, locals := 91 } : Room) [.ref ah] ([(ah, .inr (4, [.ref ah_court, .ref ah_pad, .ref ah_history, .ref ah_slots, .ref ah_seen, .ref ah_plain, .ref ah_trial])), (ah_court, .inr (0, [.ref ah_court_settings, .ref ah_court_eyes, .ref ah_court_favours, .ref ah_court_numbers, .ref ah_court_pauses, .int vh_court_bows, .int vh_court_given, .int vh_court_taken])), (ah_court_settings, .inl (g.2.1, 3, .inl vh_court_settings)), (ah_court_eyes, .inl (g.2.1, 6, .inl vh_court_eyes)), (ah_court_favours, .inl (g.2.1, 36, .inl vh_court_favours)), (ah_court_numbers, .inl (g.2.1, 24, .inl vh_court_numbers)), (ah_court_pauses, .inl (g.2.1, 24, .inl vh_court_pauses)), (ah_seen, .inr (3, [.ref ah_seen_words, .int vh_seen_groups, .ref ah_seen_left, .int vh_seen_kept, .int vh_seen_flourishes, .int vh_seen_longGroups, .int vh_seen_reason, .int vh_seen_sentences])), (ah_seen_words, .inl (g.2.1, 24, .inl vh_seen_words)), (ah_seen_left, .inl (g.2.1, 24, .inl vh_seen_left)), (ah_plain, .inr (3, [.ref ah_plain_words, .int vh_plain_groups, .ref ah_plain_left, .int vh_plain_kept, .int vh_plain_flourishes, .int vh_plain_longGroups, .int vh_plain_reason, .int vh_plain_sentences])), (ah_plain_words, .inl (g.2.1, 24, .inl vh_plain_words)), (ah_plain_left, .inl (g.2.1, 24, .inl vh_plain_left)), (ah_trial, .inr (0, [.ref ah_trial_settings, .ref ah_trial_eyes, .ref ah_trial_favours, .ref ah_trial_numbers, .ref ah_trial_pauses, .int vh_trial_bows, .int vh_trial_given, .int vh_trial_taken])), (ah_trial_settings, .inl (g.2.1, 3, .inl vh_trial_settings)), (ah_trial_eyes, .inl (g.2.1, 6, .inl vh_trial_eyes)), (ah_trial_favours, .inl (g.2.1, 36, .inl vh_trial_favours)), (ah_trial_numbers, .inl (g.2.1, 24, .inl vh_trial_numbers)), (ah_trial_pauses, .inl (g.2.1, 24, .inl vh_trial_pauses))]) (fun r w => r = some (.int res.1) ∧ w = [(ah, .inr (4, [.ref ah_court, .ref ah_pad, .ref ah_history, .ref ah_slots, .ref ah_seen, .ref ah_plain, .ref ah_trial])), (ah_court, .inr (0, [.ref ah_court_settings, .ref ah_court_eyes, .ref ah_court_favours, .ref ah_court_numbers, .ref ah_court_pauses, .int vh_court_bows, .int vh_court_given, .int vh_court_taken])), (ah_court_settings, .inl (g.2.1, 3, .inl vh_court_settings)), (ah_court_eyes, .inl (g.2.1, 6, .inl vh_court_eyes)), (ah_court_favours, .inl (g.2.1, 36, .inl vh_court_favours)), (ah_court_numbers, .inl (g.2.1, 24, .inl vh_court_numbers)), (ah_court_pauses, .inl (g.2.1, 24, .inl vh_court_pauses)), (ah_seen, .inr (3, [.ref ah_seen_words, .int res.2.1, .ref ah_seen_left, .int res.2.2.1, .int res.2.2.2.1, .int res.2.2.2.2.1, .int res.2.2.2.2.2.1, .int res.2.2.2.2.2.2.1])), (ah_seen_words, .inl (g.2.1, 24, .inl res.2.2.2.2.2.2.2.1)), (ah_seen_left, .inl (g.2.1, 24, .inl res.2.2.2.2.2.2.2.2.1)), (ah_plain, .inr (3, [.ref ah_plain_words, .int res.2.2.2.2.2.2.2.2.2.1, .ref ah_plain_left, .int res.2.2.2.2.2.2.2.2.2.2.1, .int res.2.2.2.2.2.2.2.2.2.2.2.1, .int res.2.2.2.2.2.2.2.2.2.2.2.2.1, .int res.2.2.2.2.2.2.2.2.2.2.2.2.2.1, .int res.2.2.2.2.2.2.2.2.2.2.2.2.2.2.1])), (ah_plain_words, .inl (g.2.1, 24, .inl res.2.2.2.2.2.2.2.2.2.2.2.2.2.2.2.1)), (ah_plain_left, .inl (g.2.1, 24, .inl res.2.2.2.2.2.2.2.2.2.2.2.2.2.2.2.2.1)), (ah_trial, .inr (0, [.ref ah_trial_settings, .ref ah_trial_eyes, .ref ah_trial_favours, .ref ah_trial_numbers, .ref ah_trial_pauses, .int res.2.2.2.2.2.2.2.2.2.2.2.2.2.2.2.2.2.1, .int res.2.2.2.2.2.2.2.2.2.2.2.2.2.2.2.2.2.2.1, .int res.2.2.2.2.2.2.2.2.2.2.2.2.2.2.2.2.2.2.2.1])), (ah_trial_settings, .inl (g.2.1, 3, .inl res.2.2.2.2.2.2.2.2.2.2.2.2.2.2.2.2.2.2.2.2.1)), (ah_trial_eyes, .inl (g.2.1, 6, .inl res.2.2.2.2.2.2.2.2.2.2.2.2.2.2.2.2.2.2.2.2.2.1)), (ah_trial_favours, .inl (g.2.1, 36, .inl res.2.2.2.2.2.2.2.2.2.2.2.2.2.2.2.2.2.2.2.2.2.2.1)), (ah_trial_numbers, .inl (g.2.1, 24, .inl res.2.2.2.2.2.2.2.2.2.2.2.2.2.2.2.2.2.2.2.2.2.2.2.1)), (ah_trial_pauses, .inl (g.2.1, 24, .inl res.2.2.2.2.2.2.2.2.2.2.2.2.2.2.2.2.2.2.2.2.2.2.2.2))]) := by
  refine bwS_of (by decide) (Nat.le_of_ble_eq_true rfl) ?_
  unfold f_X4_bestBow at hf
  show bwR l g cX4_bestBow 4 RX4 "bestBow" (some .int) ({ frames := 4, cells := 0, slots := 0, locals := 91 } : Room) bwT (bwZ g (fun r w => r = some (.int res.1) ∧ w = [(ah, .inr (4, [.ref ah_court, .ref ah_pad, .ref ah_history, .ref ah_slots, .ref ah_seen, .ref ah_plain, .ref ah_trial])), (ah_court, .inr (0, [.ref ah_court_settings, .ref ah_court_eyes, .ref ah_court_favours, .ref ah_court_numbers, .ref ah_court_pauses, .int vh_court_bows, .int vh_court_given, .int vh_court_taken])), (ah_court_settings, .inl (g.2.1, 3, .inl vh_court_settings)), (ah_court_eyes, .inl (g.2.1, 6, .inl vh_court_eyes)), (ah_court_favours, .inl (g.2.1, 36, .inl vh_court_favours)), (ah_court_numbers, .inl (g.2.1, 24, .inl vh_court_numbers)), (ah_court_pauses, .inl (g.2.1, 24, .inl vh_court_pauses)), (ah_seen, .inr (3, [.ref ah_seen_words, .int res.2.1, .ref ah_seen_left, .int res.2.2.1, .int res.2.2.2.1, .int res.2.2.2.2.1, .int res.2.2.2.2.2.1, .int res.2.2.2.2.2.2.1])), (ah_seen_words, .inl (g.2.1, 24, .inl res.2.2.2.2.2.2.2.1)), (ah_seen_left, .inl (g.2.1, 24, .inl res.2.2.2.2.2.2.2.2.1)), (ah_plain, .inr (3, [.ref ah_plain_words, .int res.2.2.2.2.2.2.2.2.2.1, .ref ah_plain_left, .int res.2.2.2.2.2.2.2.2.2.2.1, .int res.2.2.2.2.2.2.2.2.2.2.2.1, .int res.2.2.2.2.2.2.2.2.2.2.2.2.1, .int res.2.2.2.2.2.2.2.2.2.2.2.2.2.1, .int res.2.2.2.2.2.2.2.2.2.2.2.2.2.2.1])), (ah_plain_words, .inl (g.2.1, 24, .inl res.2.2.2.2.2.2.2.2.2.2.2.2.2.2.2.1)), (ah_plain_left, .inl (g.2.1, 24, .inl res.2.2.2.2.2.2.2.2.2.2.2.2.2.2.2.2.1)), (ah_trial, .inr (0, [.ref ah_trial_settings, .ref ah_trial_eyes, .ref ah_trial_favours, .ref ah_trial_numbers, .ref ah_trial_pauses, .int res.2.2.2.2.2.2.2.2.2.2.2.2.2.2.2.2.2.1, .int res.2.2.2.2.2.2.2.2.2.2.2.2.2.2.2.2.2.2.1, .int res.2.2.2.2.2.2.2.2.2.2.2.2.2.2.2.2.2.2.2.1])), (ah_trial_settings, .inl (g.2.1, 3, .inl res.2.2.2.2.2.2.2.2.2.2.2.2.2.2.2.2.2.2.2.2.1)), (ah_trial_eyes, .inl (g.2.1, 6, .inl res.2.2.2.2.2.2.2.2.2.2.2.2.2.2.2.2.2.2.2.2.2.1)), (ah_trial_favours, .inl (g.2.1, 36, .inl res.2.2.2.2.2.2.2.2.2.2.2.2.2.2.2.2.2.2.2.2.2.2.1)), (ah_trial_numbers, .inl (g.2.1, 24, .inl res.2.2.2.2.2.2.2.2.2.2.2.2.2.2.2.2.2.2.2.2.2.2.2.1)), (ah_trial_pauses, .inl (g.2.1, 24, .inl res.2.2.2.2.2.2.2.2.2.2.2.2.2.2.2.2.2.2.2.2.2.2.2.2))]) 0 0) 0 [(0, .ref ah)] [] ([(ah, .inr (4, [.ref ah_court, .ref ah_pad, .ref ah_history, .ref ah_slots, .ref ah_seen, .ref ah_plain, .ref ah_trial])), (ah_court, .inr (0, [.ref ah_court_settings, .ref ah_court_eyes, .ref ah_court_favours, .ref ah_court_numbers, .ref ah_court_pauses, .int vh_court_bows, .int vh_court_given, .int vh_court_taken])), (ah_court_settings, .inl (g.2.1, 3, .inl vh_court_settings)), (ah_court_eyes, .inl (g.2.1, 6, .inl vh_court_eyes)), (ah_court_favours, .inl (g.2.1, 36, .inl vh_court_favours)), (ah_court_numbers, .inl (g.2.1, 24, .inl vh_court_numbers)), (ah_court_pauses, .inl (g.2.1, 24, .inl vh_court_pauses)), (ah_seen, .inr (3, [.ref ah_seen_words, .int vh_seen_groups, .ref ah_seen_left, .int vh_seen_kept, .int vh_seen_flourishes, .int vh_seen_longGroups, .int vh_seen_reason, .int vh_seen_sentences])), (ah_seen_words, .inl (g.2.1, 24, .inl vh_seen_words)), (ah_seen_left, .inl (g.2.1, 24, .inl vh_seen_left)), (ah_plain, .inr (3, [.ref ah_plain_words, .int vh_plain_groups, .ref ah_plain_left, .int vh_plain_kept, .int vh_plain_flourishes, .int vh_plain_longGroups, .int vh_plain_reason, .int vh_plain_sentences])), (ah_plain_words, .inl (g.2.1, 24, .inl vh_plain_words)), (ah_plain_left, .inl (g.2.1, 24, .inl vh_plain_left)), (ah_trial, .inr (0, [.ref ah_trial_settings, .ref ah_trial_eyes, .ref ah_trial_favours, .ref ah_trial_numbers, .ref ah_trial_pauses, .int vh_trial_bows, .int vh_trial_given, .int vh_trial_taken])), (ah_trial_settings, .inl (g.2.1, 3, .inl vh_trial_settings)), (ah_trial_eyes, .inl (g.2.1, 6, .inl vh_trial_eyes)), (ah_trial_favours, .inl (g.2.1, 36, .inl vh_trial_favours)), (ah_trial_numbers, .inl (g.2.1, 24, .inl vh_trial_numbers)), (ah_trial_pauses, .inl (g.2.1, 24, .inl vh_trial_pauses))]) 0 0
  refine bw_aload_n 0 dX4_bestBow_0 rfl rfl ?_
  refine bw_gf bkX4 0 0 (by decide) fl_X4_10 rfl rfl dX4_bestBow_1 ?_
  refine bw_gf bkX0 1 5 (by decide) fl_X4_67 rfl rfl dX4_bestBow_4 ?_
  refine bw_bipush 24 dX4_bestBow_7 (by decide) ?_
  refine bw_icmp_lt 15 dX4_bestBow_9 (by decide) (fun c_12 => ?_) (fun c_12 => ?_)
  · have hf := bw_pos c_12 hf
    refine bw_aload_n 0 dX4_bestBow_15 rfl rfl ?_
    refine bw_gf bkX4 0 5 (by decide) fl_X4_41 rfl rfl dX4_bestBow_16 ?_
    refine bw_aload_n 0 dX4_bestBow_19 rfl rfl ?_
    refine bw_gf bkX4 0 0 (by decide) fl_X4_10 rfl rfl dX4_bestBow_20 ?_
    refine bw_iconst 0 dX4_bestBow_23 (by decide) ?_
    obtain ⟨q_13, hc_13, hf⟩ := bw_bind hf
    refine bw_callV [.ref ah_court, .int 0] [] [(ah, .inr (4, [.ref ah_court, .ref ah_pad, .ref ah_history, .ref ah_slots, .ref ah_seen, .ref ah_plain, .ref ah_trial])), (ah_court_eyes, .inl (g.2.1, 6, .inl vh_court_eyes)), (ah_court_favours, .inl (g.2.1, 36, .inl vh_court_favours)), (ah_seen, .inr (3, [.ref ah_seen_words, .int vh_seen_groups, .ref ah_seen_left, .int vh_seen_kept, .int vh_seen_flourishes, .int vh_seen_longGroups, .int vh_seen_reason, .int vh_seen_sentences])), (ah_seen_words, .inl (g.2.1, 24, .inl vh_seen_words)), (ah_seen_left, .inl (g.2.1, 24, .inl vh_seen_left)), (ah_trial, .inr (0, [.ref ah_trial_settings, .ref ah_trial_eyes, .ref ah_trial_favours, .ref ah_trial_numbers, .ref ah_trial_pauses, .int vh_trial_bows, .int vh_trial_given, .int vh_trial_taken])), (ah_trial_settings, .inl (g.2.1, 3, .inl vh_trial_settings)), (ah_trial_eyes, .inl (g.2.1, 6, .inl vh_trial_eyes)), (ah_trial_favours, .inl (g.2.1, 36, .inl vh_trial_favours)), (ah_trial_numbers, .inl (g.2.1, 24, .inl vh_trial_numbers)), (ah_trial_pauses, .inl (g.2.1, 24, .inl vh_trial_pauses))] 0 3 (s_X3_look l g ah_plain ah_plain_words ah_plain_left ah_court ah_court_settings ah_court_eyes ah_court_favours ah_court_numbers ah_court_pauses vh_plain_groups vh_plain_kept vh_plain_flourishes vh_plain_longGroups vh_plain_reason vh_plain_sentences vh_plain_words vh_plain_left vh_court_bows vh_court_given vh_court_taken vh_court_settings vh_court_numbers vh_court_pauses 0 _ hc_13) rfl co_X3_look ini_X3 ml_X4_126 im_X3_look se_X3_look ar_X3_look ⟨Nat.le_of_ble_eq_true rfl, Nat.le_of_ble_eq_true rfl⟩ ⟨Nat.le_of_ble_eq_true rfl, Nat.le_of_ble_eq_true rfl⟩ rfl rfl (bw_pick1 19 [10, 11, 12, 1, 2, 5, 6, 0, 3, 4, 7, 8, 9, 13, 14, 15, 16, 17, 18] rfl rfl (by decide)) (Nat.le_of_ble_eq_true rfl) dX4_bestBow_24 (fun r w1 hq => ?_)
    obtain ⟨rfl, rfl⟩ := hq
    refine bw_perm (ws1 := [(ah, .inr (4, [.ref ah_court, .ref ah_pad, .ref ah_history, .ref ah_slots, .ref ah_seen, .ref ah_plain, .ref ah_trial])), (ah_court, .inr (0, [.ref ah_court_settings, .ref ah_court_eyes, .ref ah_court_favours, .ref ah_court_numbers, .ref ah_court_pauses, .int vh_court_bows, .int vh_court_given, .int vh_court_taken])), (ah_court_settings, .inl (g.2.1, 3, .inl vh_court_settings)), (ah_court_eyes, .inl (g.2.1, 6, .inl vh_court_eyes)), (ah_court_favours, .inl (g.2.1, 36, .inl vh_court_favours)), (ah_court_numbers, .inl (g.2.1, 24, .inl vh_court_numbers)), (ah_court_pauses, .inl (g.2.1, 24, .inl vh_court_pauses)), (ah_seen, .inr (3, [.ref ah_seen_words, .int vh_seen_groups, .ref ah_seen_left, .int vh_seen_kept, .int vh_seen_flourishes, .int vh_seen_longGroups, .int vh_seen_reason, .int vh_seen_sentences])), (ah_seen_words, .inl (g.2.1, 24, .inl vh_seen_words)), (ah_seen_left, .inl (g.2.1, 24, .inl vh_seen_left)), (ah_plain, .inr (3, [.ref ah_plain_words, .int q_13.1, .ref ah_plain_left, .int q_13.2.1, .int q_13.2.2.1, .int q_13.2.2.2.1, .int q_13.2.2.2.2.1, .int q_13.2.2.2.2.2.1])), (ah_plain_words, .inl (g.2.1, 24, .inl q_13.2.2.2.2.2.2.1)), (ah_plain_left, .inl (g.2.1, 24, .inl q_13.2.2.2.2.2.2.2)), (ah_trial, .inr (0, [.ref ah_trial_settings, .ref ah_trial_eyes, .ref ah_trial_favours, .ref ah_trial_numbers, .ref ah_trial_pauses, .int vh_trial_bows, .int vh_trial_given, .int vh_trial_taken])), (ah_trial_settings, .inl (g.2.1, 3, .inl vh_trial_settings)), (ah_trial_eyes, .inl (g.2.1, 6, .inl vh_trial_eyes)), (ah_trial_favours, .inl (g.2.1, 36, .inl vh_trial_favours)), (ah_trial_numbers, .inl (g.2.1, 24, .inl vh_trial_numbers)), (ah_trial_pauses, .inl (g.2.1, 24, .inl vh_trial_pauses))]) (bw_pick1 19 [0, 15, 16, 1, 2, 17, 18, 3, 4, 5, 12, 13, 14, 6, 7, 8, 9, 10, 11] rfl rfl (by decide)) ?_
    refine bw_st (st1 := []) rfl ?_
    refine bw_aload_n 0 dX4_bestBow_27 rfl rfl ?_
    refine bw_gf bkX4 0 5 (by decide) fl_X4_41 rfl rfl dX4_bestBow_28 ?_
    refine bw_gf bkX3 10 7 (by decide) fl_X4_136 rfl rfl dX4_bestBow_31 ?_
    refine bw_istore_n [(1, .int q_13.2.2.2.2.2.1), (0, .ref ah)] dX4_bestBow_34 rfl (by decide) rfl ?_
    refine bw_ldc ct_X4_89 dX4_bestBow_35 ?_
    refine bw_istore_n [(2, .int ((-1000006))), (1, .int q_13.2.2.2.2.2.1), (0, .ref ah)] dX4_bestBow_37 rfl (by decide) rfl ?_
    refine bw_aload_n 2 dX4_bestBow_38 rfl rfl ?_
    refine bw_gf bkX4 0 6 (by decide) fl_X4_44 rfl rfl dX4_bestBow_39 ?_
    refine bw_aload_n 2 dX4_bestBow_42 rfl rfl ?_
    refine bw_gf bkX4 0 0 (by decide) fl_X4_10 rfl rfl dX4_bestBow_43 ?_
    obtain ⟨q_14, hc_14, hf⟩ := bw_bind hf
    refine bw_callV [.ref ah_court] [] [(ah, .inr (4, [.ref ah_court, .ref ah_pad, .ref ah_history, .ref ah_slots, .ref ah_seen, .ref ah_plain, .ref ah_trial])), (ah_seen, .inr (3, [.ref ah_seen_words, .int vh_seen_groups, .ref ah_seen_left, .int vh_seen_kept, .int vh_seen_flourishes, .int vh_seen_longGroups, .int vh_seen_reason, .int vh_seen_sentences])), (ah_seen_words, .inl (g.2.1, 24, .inl vh_seen_words)), (ah_seen_left, .inl (g.2.1, 24, .inl vh_seen_left)), (ah_plain, .inr (3, [.ref ah_plain_words, .int q_13.1, .ref ah_plain_left, .int q_13.2.1, .int q_13.2.2.1, .int q_13.2.2.2.1, .int q_13.2.2.2.2.1, .int q_13.2.2.2.2.2.1])), (ah_plain_words, .inl (g.2.1, 24, .inl q_13.2.2.2.2.2.2.1)), (ah_plain_left, .inl (g.2.1, 24, .inl q_13.2.2.2.2.2.2.2))] 0 0 (s_X0_become l g ah_trial ah_trial_settings ah_trial_eyes ah_trial_favours ah_trial_numbers ah_trial_pauses ah_court ah_court_settings ah_court_eyes ah_court_favours ah_court_numbers ah_court_pauses vh_trial_bows vh_trial_given vh_trial_taken vh_trial_settings vh_trial_eyes vh_trial_favours vh_trial_numbers vh_trial_pauses vh_court_bows vh_court_given vh_court_taken vh_court_settings vh_court_eyes vh_court_favours vh_court_numbers vh_court_pauses  _ hc_14) rfl co_X0_become ini_X0 ml_X4_173 im_X0_become se_X0_become ar_X0_become ⟨Nat.le_of_ble_eq_true rfl, Nat.le_of_ble_eq_true rfl⟩ ⟨Nat.le_of_ble_eq_true rfl, Nat.le_of_ble_eq_true rfl⟩ rfl rfl (bw_pick1 19 [13, 14, 15, 16, 17, 18, 1, 2, 3, 4, 5, 6, 0, 7, 8, 9, 10, 11, 12] rfl rfl (by decide)) (Nat.le_of_ble_eq_true rfl) dX4_bestBow_46 (fun r w1 hq => ?_)
    obtain ⟨rfl, rfl⟩ := hq
    refine bw_perm (ws1 := [(ah, .inr (4, [.ref ah_court, .ref ah_pad, .ref ah_history, .ref ah_slots, .ref ah_seen, .ref ah_plain, .ref ah_trial])), (ah_court, .inr (0, [.ref ah_court_settings, .ref ah_court_eyes, .ref ah_court_favours, .ref ah_court_numbers, .ref ah_court_pauses, .int vh_court_bows, .int vh_court_given, .int vh_court_taken])), (ah_court_settings, .inl (g.2.1, 3, .inl vh_court_settings)), (ah_court_eyes, .inl (g.2.1, 6, .inl vh_court_eyes)), (ah_court_favours, .inl (g.2.1, 36, .inl vh_court_favours)), (ah_court_numbers, .inl (g.2.1, 24, .inl vh_court_numbers)), (ah_court_pauses, .inl (g.2.1, 24, .inl vh_court_pauses)), (ah_seen, .inr (3, [.ref ah_seen_words, .int vh_seen_groups, .ref ah_seen_left, .int vh_seen_kept, .int vh_seen_flourishes, .int vh_seen_longGroups, .int vh_seen_reason, .int vh_seen_sentences])), (ah_seen_words, .inl (g.2.1, 24, .inl vh_seen_words)), (ah_seen_left, .inl (g.2.1, 24, .inl vh_seen_left)), (ah_plain, .inr (3, [.ref ah_plain_words, .int q_13.1, .ref ah_plain_left, .int q_13.2.1, .int q_13.2.2.1, .int q_13.2.2.2.1, .int q_13.2.2.2.2.1, .int q_13.2.2.2.2.2.1])), (ah_plain_words, .inl (g.2.1, 24, .inl q_13.2.2.2.2.2.2.1)), (ah_plain_left, .inl (g.2.1, 24, .inl q_13.2.2.2.2.2.2.2)), (ah_trial, .inr (0, [.ref ah_trial_settings, .ref ah_trial_eyes, .ref ah_trial_favours, .ref ah_trial_numbers, .ref ah_trial_pauses, .int q_14.1, .int q_14.2.1, .int q_14.2.2.1])), (ah_trial_settings, .inl (g.2.1, 3, .inl q_14.2.2.2.1)), (ah_trial_eyes, .inl (g.2.1, 6, .inl q_14.2.2.2.2.1)), (ah_trial_favours, .inl (g.2.1, 36, .inl q_14.2.2.2.2.2.1)), (ah_trial_numbers, .inl (g.2.1, 24, .inl q_14.2.2.2.2.2.2.1)), (ah_trial_pauses, .inl (g.2.1, 24, .inl q_14.2.2.2.2.2.2.2))]) (bw_pick1 19 [0, 13, 14, 15, 16, 17, 18, 1, 2, 3, 4, 5, 6, 7, 8, 9, 10, 11, 12] rfl rfl (by decide)) ?_
    refine bw_st (st1 := []) rfl ?_
    refine bw_iconst 0 dX4_bestBow_49 (by decide) ?_
    refine bw_istore_n [(3, .int 0), (2, .int ((-1000006))), (1, .int q_13.2.2.2.2.2.1), (0, .ref ah)] dX4_bestBow_50 rfl (by decide) rfl ?_
    refine bw_lv [3, 2, 1, 0] rfl ?_
    exact s_X4_bestBow_L51 l g ah ah_court ah_pad ah_history ah_slots ah_seen ah_plain ah_trial ah_court_settings ah_court_eyes ah_court_favours ah_court_numbers ah_court_pauses ah_seen_words ah_seen_left ah_plain_words ah_plain_left ah_trial_settings ah_trial_eyes ah_trial_favours ah_trial_numbers ah_trial_pauses bw_F vh_court_bows vh_court_given vh_court_taken vh_court_settings vh_court_eyes vh_court_favours vh_court_numbers vh_court_pauses vh_seen_groups vh_seen_kept vh_seen_flourishes vh_seen_longGroups vh_seen_reason vh_seen_sentences vh_seen_words vh_seen_left q_13.1 q_13.2.1 q_13.2.2.1 q_13.2.2.2.1 q_13.2.2.2.2.1 q_13.2.2.2.2.2.1 q_13.2.2.2.2.2.2.1 q_13.2.2.2.2.2.2.2 q_14.1 q_14.2.1 q_14.2.2.1 q_14.2.2.2.1 q_14.2.2.2.2.1 q_14.2.2.2.2.2.1 q_14.2.2.2.2.2.2.1 q_14.2.2.2.2.2.2.2 q_13.2.2.2.2.2.1 ((-1000006)) 0 _ hf
  · have hf := bw_neg c_12 hf
    refine bw_ldc ct_X4_89 dX4_bestBow_12 ?_
    cases Option.some.inj hf
    exact bw_ret rfl rfl (Nat.le_of_ble_eq_true rfl) (Nat.le_of_ble_eq_true rfl) dX4_bestBow_14 ⟨rfl, rfl⟩
def f_X4_darling_L4 : Nat → (Nat → Int32) → (Int32) → (Int32) → Option (Int32)
  | 0, _, _, _ => none
  | fu + 1, vh_court_favours, x1, x2 => (if 6 ≤ x2 then some x1 else ((f_X4_favoursForGiver vh_court_favours x2).bind fun q_6 => ((f_X4_favoursForGiver vh_court_favours x1).bind fun q_7 => (if q_6 ≤ q_7 then (f_X4_darling_L4 fu vh_court_favours x1 ((x2 + 1))) else (f_X4_darling_L4 fu vh_court_favours x2 ((x2 + 1)))))))
set_option maxHeartbeats 4000000 in
set_option maxRecDepth 100000 in
theorem s_X4_darling_L4 (l : Launch) (g : bwG) (ah ah_court ah_pad ah_history ah_slots ah_seen ah_plain ah_trial ah_court_settings ah_court_eyes ah_court_favours ah_court_numbers ah_court_pauses : Nat) (fu : Nat) : ∀ (vh_court_bows : Int32) (vh_court_given : Int32) (vh_court_taken : Int32) (vh_court_favours : Nat → Int32) (x1 : Int32) (x2 : Int32) (res : Int32), f_X4_darling_L4 fu vh_court_favours x1 x2 = some res → bwR l g cX4_darling 3 RX4 "darling" (some .int) ({ frames := 2, cells := 0, slots := 0, locals := 44 } : Room) bwT (bwZ g (fun r w => r = some (.int res) ∧ w = [(ah, .inr (4, [.ref ah_court, .ref ah_pad, .ref ah_history, .ref ah_slots, .ref ah_seen, .ref ah_plain, .ref ah_trial])), (ah_court, .inr (0, [.ref ah_court_settings, .ref ah_court_eyes, .ref ah_court_favours, .ref ah_court_numbers, .ref ah_court_pauses, .int vh_court_bows, .int vh_court_given, .int vh_court_taken])), (ah_court_favours, .inl (g.2.1, 36, .inl vh_court_favours))]) 0 0) 4 [(0, .ref ah), (1, .int x1), (2, .int x2)] [] ([(ah, .inr (4, [.ref ah_court, .ref ah_pad, .ref ah_history, .ref ah_slots, .ref ah_seen, .ref ah_plain, .ref ah_trial])), (ah_court, .inr (0, [.ref ah_court_settings, .ref ah_court_eyes, .ref ah_court_favours, .ref ah_court_numbers, .ref ah_court_pauses, .int vh_court_bows, .int vh_court_given, .int vh_court_taken])), (ah_court_favours, .inl (g.2.1, 36, .inl vh_court_favours))]) 0 0 := by
  induction fu with
  | zero => intro vh_court_bows vh_court_given vh_court_taken vh_court_favours x1 x2 res hf; exact absurd hf (by intro h; cases h)
  | succ fu ih =>
    intro vh_court_bows vh_court_given vh_court_taken vh_court_favours x1 x2 res hf
    rw [f_X4_darling_L4] at hf
    refine bw_iload_n 2 dX4_darling_4 rfl rfl ?_
    refine bw_bipush 6 dX4_darling_5 (by decide) ?_
    refine bw_icmp_ge 31 dX4_darling_7 (by decide) (fun c_5 => ?_) (fun c_5 => ?_)
    · have hf := bw_pos c_5 hf
      refine bw_iload_n 1 dX4_darling_31 rfl rfl ?_
      cases Option.some.inj hf
      exact bw_ret rfl rfl (Nat.le_of_ble_eq_true rfl) (Nat.le_of_ble_eq_true rfl) dX4_darling_32 ⟨rfl, rfl⟩
    · have hf := bw_neg c_5 hf
      refine bw_aload_n 0 dX4_darling_10 rfl rfl ?_
      refine bw_iload_n 2 dX4_darling_11 rfl rfl ?_
      obtain ⟨q_6, hc_6, hf⟩ := bw_bind hf
      refine bw_callV [.int x2] [] [] 0 4 (s_X4_favoursForGiver l g ah ah_court ah_pad ah_history ah_slots ah_seen ah_plain ah_trial ah_court_settings ah_court_eyes ah_court_favours ah_court_numbers ah_court_pauses vh_court_bows vh_court_given vh_court_taken vh_court_favours x2 _ hc_6) rfl co_X4_favoursForGiver ini_X4 ml_X4_164 im_X4_favoursForGiver se_X4_favoursForGiver ar_X4_favoursForGiver ⟨Nat.le_of_ble_eq_true rfl, Nat.le_of_ble_eq_true rfl⟩ ⟨Nat.le_of_ble_eq_true rfl, Nat.le_of_ble_eq_true rfl⟩ rfl rfl (bw_pick1 3 [0, 1, 2] rfl rfl (by decide)) (Nat.le_of_ble_eq_true rfl) dX4_darling_12 (fun r w1 hq => ?_)
      obtain ⟨rfl, rfl⟩ := hq
      refine bw_perm (ws1 := [(ah, .inr (4, [.ref ah_court, .ref ah_pad, .ref ah_history, .ref ah_slots, .ref ah_seen, .ref ah_plain, .ref ah_trial])), (ah_court, .inr (0, [.ref ah_court_settings, .ref ah_court_eyes, .ref ah_court_favours, .ref ah_court_numbers, .ref ah_court_pauses, .int vh_court_bows, .int vh_court_given, .int vh_court_taken])), (ah_court_favours, .inl (g.2.1, 36, .inl vh_court_favours))]) (bw_pick1 3 [0, 1, 2] rfl rfl (by decide)) ?_
      refine bw_st (st1 := [.int q_6]) rfl ?_
      refine bw_aload_n 0 dX4_darling_15 rfl rfl ?_
      refine bw_iload_n 1 dX4_darling_16 rfl rfl ?_
      obtain ⟨q_7, hc_7, hf⟩ := bw_bind hf
      refine bw_callV [.int x1] [.int q_6] [] 0 4 (s_X4_favoursForGiver l g ah ah_court ah_pad ah_history ah_slots ah_seen ah_plain ah_trial ah_court_settings ah_court_eyes ah_court_favours ah_court_numbers ah_court_pauses vh_court_bows vh_court_given vh_court_taken vh_court_favours x1 _ hc_7) rfl co_X4_favoursForGiver ini_X4 ml_X4_164 im_X4_favoursForGiver se_X4_favoursForGiver ar_X4_favoursForGiver ⟨Nat.le_of_ble_eq_true rfl, Nat.le_of_ble_eq_true rfl⟩ ⟨Nat.le_of_ble_eq_true rfl, Nat.le_of_ble_eq_true rfl⟩ rfl rfl (bw_pick1 3 [0, 1, 2] rfl rfl (by decide)) (Nat.le_of_ble_eq_true rfl) dX4_darling_17 (fun r w1 hq => ?_)
      obtain ⟨rfl, rfl⟩ := hq
      refine bw_perm (ws1 := [(ah, .inr (4, [.ref ah_court, .ref ah_pad, .ref ah_history, .ref ah_slots, .ref ah_seen, .ref ah_plain, .ref ah_trial])), (ah_court, .inr (0, [.ref ah_court_settings, .ref ah_court_eyes, .ref ah_court_favours, .ref ah_court_numbers, .ref ah_court_pauses, .int vh_court_bows, .int vh_court_given, .int vh_court_taken])), (ah_court_favours, .inl (g.2.1, 36, .inl vh_court_favours))]) (bw_pick1 3 [0, 1, 2] rfl rfl (by decide)) ?_
      refine bw_st (st1 := [.int q_7, .int q_6]) rfl ?_
      refine bw_icmp_le 25 dX4_darling_20 (by decide) (fun c_8 => ?_) (fun c_8 => ?_)
      · have hf := bw_pos c_8 hf
        refine bw_iinc 2 (x2 + 1) [(2, .int ((x2 + 1))), (0, .ref ah), (1, .int x1)] dX4_darling_25 rfl rfl (by decide) rfl ?_
        refine bw_goto 4 dX4_darling_28 (by decide) ?_
        refine bw_lv [1, 2, 0] rfl ?_
        exact ih vh_court_bows vh_court_given vh_court_taken vh_court_favours x1 ((x2 + 1)) _ hf
      · have hf := bw_neg c_8 hf
        refine bw_iload_n 2 dX4_darling_23 rfl rfl ?_
        refine bw_istore_n [(1, .int x2), (0, .ref ah), (2, .int x2)] dX4_darling_24 rfl (by decide) rfl ?_
        refine bw_iinc 2 (x2 + 1) [(2, .int ((x2 + 1))), (1, .int x2), (0, .ref ah)] dX4_darling_25 rfl rfl (by decide) rfl ?_
        refine bw_goto 4 dX4_darling_28 (by decide) ?_
        refine bw_lv [2, 1, 0] rfl ?_
        exact ih vh_court_bows vh_court_given vh_court_taken vh_court_favours x2 ((x2 + 1)) _ hf
theorem ar_X4_darling : yX4_darling.cls ≠ "java/lang/invoke/MethodHandle" ∧ yX4_darling.cls ≠ "java/lang/invoke/VarHandle" ∧ (parseMethodDescriptor yX4_darling.desc).map (fun d => d.parameters.length) = some 0 := ⟨by decide, by decide, by decide +kernel⟩
def f_X4_darling (vh_court_favours : Nat → Int32)  : Option (Int32) := (f_X4_darling_L4 bw_F vh_court_favours 0 1)
set_option maxHeartbeats 4000000 in
set_option maxRecDepth 100000 in
theorem s_X4_darling (l : Launch) (g : bwG) (ah ah_court ah_pad ah_history ah_slots ah_seen ah_plain ah_trial ah_court_settings ah_court_eyes ah_court_favours ah_court_numbers ah_court_pauses : Nat) (vh_court_bows : Int32) (vh_court_given : Int32) (vh_court_taken : Int32) (vh_court_favours : Nat → Int32)  (res : Int32) (hf : f_X4_darling vh_court_favours  = some res) : bwS l g yX4_darling cX4_darling 3 (some .int) ({ frames := 2, cells := 0, slots := 0, locals := 44 } : Room) [.ref ah] ([(ah, .inr (4, [.ref ah_court, .ref ah_pad, .ref ah_history, .ref ah_slots, .ref ah_seen, .ref ah_plain, .ref ah_trial])), (ah_court, .inr (0, [.ref ah_court_settings, .ref ah_court_eyes, .ref ah_court_favours, .ref ah_court_numbers, .ref ah_court_pauses, .int vh_court_bows, .int vh_court_given, .int vh_court_taken])), (ah_court_favours, .inl (g.2.1, 36, .inl vh_court_favours))]) (fun r w => r = some (.int res) ∧ w = [(ah, .inr (4, [.ref ah_court, .ref ah_pad, .ref ah_history, .ref ah_slots, .ref ah_seen, .ref ah_plain, .ref ah_trial])), (ah_court, .inr (0, [.ref ah_court_settings, .ref ah_court_eyes, .ref ah_court_favours, .ref ah_court_numbers, .ref ah_court_pauses, .int vh_court_bows, .int vh_court_given, .int vh_court_taken])), (ah_court_favours, .inl (g.2.1, 36, .inl vh_court_favours))]) := by
  refine bwS_of (by decide) (Nat.le_of_ble_eq_true rfl) ?_
  unfold f_X4_darling at hf
  show bwR l g cX4_darling 3 RX4 "darling" (some .int) ({ frames := 2, cells := 0, slots := 0, locals := 44 } : Room) bwT (bwZ g (fun r w => r = some (.int res) ∧ w = [(ah, .inr (4, [.ref ah_court, .ref ah_pad, .ref ah_history, .ref ah_slots, .ref ah_seen, .ref ah_plain, .ref ah_trial])), (ah_court, .inr (0, [.ref ah_court_settings, .ref ah_court_eyes, .ref ah_court_favours, .ref ah_court_numbers, .ref ah_court_pauses, .int vh_court_bows, .int vh_court_given, .int vh_court_taken])), (ah_court_favours, .inl (g.2.1, 36, .inl vh_court_favours))]) 0 0) 0 [(0, .ref ah)] [] ([(ah, .inr (4, [.ref ah_court, .ref ah_pad, .ref ah_history, .ref ah_slots, .ref ah_seen, .ref ah_plain, .ref ah_trial])), (ah_court, .inr (0, [.ref ah_court_settings, .ref ah_court_eyes, .ref ah_court_favours, .ref ah_court_numbers, .ref ah_court_pauses, .int vh_court_bows, .int vh_court_given, .int vh_court_taken])), (ah_court_favours, .inl (g.2.1, 36, .inl vh_court_favours))]) 0 0
  refine bw_iconst 0 dX4_darling_0 (by decide) ?_
  refine bw_istore_n [(1, .int 0), (0, .ref ah)] dX4_darling_1 rfl (by decide) rfl ?_
  refine bw_iconst 1 dX4_darling_2 (by decide) ?_
  refine bw_istore_n [(2, .int 1), (1, .int 0), (0, .ref ah)] dX4_darling_3 rfl (by decide) rfl ?_
  refine bw_lv [2, 1, 0] rfl ?_
  exact s_X4_darling_L4 l g ah ah_court ah_pad ah_history ah_slots ah_seen ah_plain ah_trial ah_court_settings ah_court_eyes ah_court_favours ah_court_numbers ah_court_pauses bw_F vh_court_bows vh_court_given vh_court_taken vh_court_favours 0 1 _ hf
theorem ar_X4_codeAt : yX4_codeAt.cls ≠ "java/lang/invoke/MethodHandle" ∧ yX4_codeAt.cls ≠ "java/lang/invoke/VarHandle" ∧ (parseMethodDescriptor yX4_codeAt.desc).map (fun d => d.parameters.length) = some 2 := ⟨by decide, by decide, by decide +kernel⟩
def f_X4_codeAt  (p0 : Int64) (p1 : Int32) : Option (Int32) := some (((((bw_ushr p0 ((8 * p1)))) : Int64).toInt32) &&& 255)
set_option maxHeartbeats 4000000 in
set_option maxRecDepth 100000 in
theorem s_X4_codeAt (l : Launch) (g : bwG)   (p0 : Int64) (p1 : Int32) (res : Int32) (hf : f_X4_codeAt  p0 p1 = some res) : bwS l g yX4_codeAt cX4_codeAt 3 (some .int) ({ frames := 0, cells := 0, slots := 0, locals := 0 } : Room) [.long p0, .int p1] ([]) (fun r w => r = some (.int res) ∧ w = []) := by
  refine bwS_of (by decide) (Nat.le_of_ble_eq_true rfl) ?_
  unfold f_X4_codeAt at hf
  show bwR l g cX4_codeAt 3 RX4 "codeAt" (some .int) ({ frames := 0, cells := 0, slots := 0, locals := 0 } : Room) bwT (bwZ g (fun r w => r = some (.int res) ∧ w = []) 0 0) 0 [(0, .long p0), (2, .int p1)] [] ([]) 0 0
  refine bw_lload_n 0 dX4_codeAt_0 rfl rfl ?_
  refine bw_bipush 8 dX4_codeAt_1 (by decide) ?_
  refine bw_iload_n 1 dX4_codeAt_3 rfl rfl ?_
  refine bw_imul dX4_codeAt_4 ?_
  refine bw_lushr dX4_codeAt_5 ?_
  refine bw_l2i dX4_codeAt_6 ?_
  refine bw_sipush 255 dX4_codeAt_7 (by decide) ?_
  refine bw_iand dX4_codeAt_10 ?_
  cases Option.some.inj hf
  exact bw_ret rfl rfl (Nat.le_of_ble_eq_true rfl) (Nat.le_of_ble_eq_true rfl) dX4_codeAt_11 ⟨rfl, rfl⟩
def f_X4_codesIn_L2 : Nat → (Int64) → (Int32) → Option (Int32)
  | 0, _, _ => none
  | fu + 1, x0, x2 => (if 8 ≤ x2 then (if 8 ≤ x2 then some x2 else (if (lg_cmp ((bw_ushr x0 ((8 * x2)))) 0) = 0 then some x2 else some 0)) else ((f_X4_codeAt x0 x2).bind fun q_14 => (if q_14 = 0 then (if 8 ≤ x2 then some x2 else (if (lg_cmp ((bw_ushr x0 ((8 * x2)))) 0) = 0 then some x2 else some 0)) else ((f_X4_codeAt x0 x2).bind fun q_18 => (if q_18 < 33 then some 0 else (if q_18 ≤ 126 then (f_X4_codesIn_L2 fu  x0 ((x2 + 1))) else some 0))))))
set_option maxHeartbeats 4000000 in
set_option maxRecDepth 100000 in
theorem s_X4_codesIn_L2 (l : Launch) (g : bwG)  (fu : Nat) : ∀ (x0 : Int64) (x2 : Int32) (res : Int32), f_X4_codesIn_L2 fu  x0 x2 = some res → bwR l g cX4_codesIn 4 RX4 "codesIn" (some .int) ({ frames := 1, cells := 0, slots := 0, locals := 22 } : Room) bwT (bwZ g (fun r w => r = some (.int res) ∧ w = []) 0 0) 2 [(0, .long x0), (2, .int x2)] [] ([]) 0 0 := by
  induction fu with
  | zero => intro x0 x2 res hf; exact absurd hf (by intro h; cases h)
  | succ fu ih =>
    intro x0 x2 res hf
    rw [f_X4_codesIn_L2] at hf
    refine bw_iload_n 1 dX4_codesIn_2 rfl rfl ?_
    refine bw_bipush 8 dX4_codesIn_3 (by decide) ?_
    refine bw_icmp_ge 42 dX4_codesIn_5 (by decide) (fun c_11 => ?_) (fun c_11 => ?_)
    · have hf := bw_pos c_11 hf
      refine bw_iload_n 1 dX4_codesIn_42 rfl rfl ?_
      refine bw_bipush 8 dX4_codesIn_43 (by decide) ?_
      refine bw_icmp_ge 63 dX4_codesIn_45 (by decide) (fun c_12 => ?_) (fun c_12 => ?_)
      · have hf := bw_pos c_12 hf
        refine bw_iconst 0 dX4_codesIn_63 (by decide) ?_
        refine bw_istore_n [(3, .int 0), (0, .long x0), (2, .int x2)] dX4_codesIn_64 rfl (by decide) rfl ?_
        refine bw_iload_n 0 dX4_codesIn_65 rfl rfl ?_
        refine bw_if_eq 73 dX4_codesIn_66 (by decide) (fun _ => ?_) (fun c => absurd c (by decide))
        refine bw_iload_n 2 dX4_codesIn_73 rfl rfl ?_
        cases Option.some.inj hf
        exact bw_ret rfl rfl (Nat.le_of_ble_eq_true rfl) (Nat.le_of_ble_eq_true rfl) dX4_codesIn_74 ⟨rfl, rfl⟩
      · have hf := bw_neg c_12 hf
        refine bw_lload_n 0 dX4_codesIn_48 rfl rfl ?_
        refine bw_bipush 8 dX4_codesIn_49 (by decide) ?_
        refine bw_iload_n 1 dX4_codesIn_51 rfl rfl ?_
        refine bw_imul dX4_codesIn_52 ?_
        refine bw_lushr dX4_codesIn_53 ?_
        refine bw_lconst 0 dX4_codesIn_54 (by decide) ?_
        refine bw_lcmp dX4_codesIn_55 ?_
        refine bw_if_eq 63 dX4_codesIn_56 (by decide) (fun c_13 => ?_) (fun c_13 => ?_)
        · have hf := bw_pos c_13 hf
          refine bw_iconst 0 dX4_codesIn_63 (by decide) ?_
          refine bw_istore_n [(3, .int 0), (0, .long x0), (2, .int x2)] dX4_codesIn_64 rfl (by decide) rfl ?_
          refine bw_iload_n 0 dX4_codesIn_65 rfl rfl ?_
          refine bw_if_eq 73 dX4_codesIn_66 (by decide) (fun _ => ?_) (fun c => absurd c (by decide))
          refine bw_iload_n 2 dX4_codesIn_73 rfl rfl ?_
          cases Option.some.inj hf
          exact bw_ret rfl rfl (Nat.le_of_ble_eq_true rfl) (Nat.le_of_ble_eq_true rfl) dX4_codesIn_74 ⟨rfl, rfl⟩
        · have hf := bw_neg c_13 hf
          refine bw_iconst 1 dX4_codesIn_59 (by decide) ?_
          refine bw_goto 64 dX4_codesIn_60 (by decide) ?_
          refine bw_istore_n [(3, .int 1), (0, .long x0), (2, .int x2)] dX4_codesIn_64 rfl (by decide) rfl ?_
          refine bw_iload_n 0 dX4_codesIn_65 rfl rfl ?_
          refine bw_if_eq 73 dX4_codesIn_66 (by decide) (fun c => absurd c (by decide)) (fun _ => ?_)
          refine bw_iconst 0 dX4_codesIn_69 (by decide) ?_
          refine bw_goto 74 dX4_codesIn_70 (by decide) ?_
          cases Option.some.inj hf
          exact bw_ret rfl rfl (Nat.le_of_ble_eq_true rfl) (Nat.le_of_ble_eq_true rfl) dX4_codesIn_74 ⟨rfl, rfl⟩
    · have hf := bw_neg c_11 hf
      refine bw_lload_n 0 dX4_codesIn_8 rfl rfl ?_
      refine bw_iload_n 1 dX4_codesIn_9 rfl rfl ?_
      obtain ⟨q_14, hc_14, hf⟩ := bw_bind hf
      refine bw_callS [.long x0, .int x2] [] [] (s_X4_codeAt l g   x0 x2 _ hc_14) rfl co_X4_codeAt ini_X4 ml_X4_180 st_X4_codeAt ar_X4_codeAt ⟨Nat.le_of_ble_eq_true rfl, Nat.le_of_ble_eq_true rfl⟩ ⟨Nat.le_of_ble_eq_true rfl, Nat.le_of_ble_eq_true rfl⟩ (bw_pick1 0 [] rfl rfl (by decide)) (Nat.le_of_ble_eq_true rfl) dX4_codesIn_10 (fun r w1 hq => ?_)
      obtain ⟨rfl, rfl⟩ := hq
      refine bw_perm (ws1 := []) (bw_pick1 0 [] rfl rfl (by decide)) ?_
      refine bw_st (st1 := [.int q_14]) rfl ?_
      refine bw_if_eq 42 dX4_codesIn_13 (by decide) (fun c_15 => ?_) (fun c_15 => ?_)
      · have hf := bw_pos c_15 hf
        refine bw_iload_n 1 dX4_codesIn_42 rfl rfl ?_
        refine bw_bipush 8 dX4_codesIn_43 (by decide) ?_
        refine bw_icmp_ge 63 dX4_codesIn_45 (by decide) (fun c_16 => ?_) (fun c_16 => ?_)
        · have hf := bw_pos c_16 hf
          refine bw_iconst 0 dX4_codesIn_63 (by decide) ?_
          refine bw_istore_n [(3, .int 0), (0, .long x0), (2, .int x2)] dX4_codesIn_64 rfl (by decide) rfl ?_
          refine bw_iload_n 0 dX4_codesIn_65 rfl rfl ?_
          refine bw_if_eq 73 dX4_codesIn_66 (by decide) (fun _ => ?_) (fun c => absurd c (by decide))
          refine bw_iload_n 2 dX4_codesIn_73 rfl rfl ?_
          cases Option.some.inj hf
          exact bw_ret rfl rfl (Nat.le_of_ble_eq_true rfl) (Nat.le_of_ble_eq_true rfl) dX4_codesIn_74 ⟨rfl, rfl⟩
        · have hf := bw_neg c_16 hf
          refine bw_lload_n 0 dX4_codesIn_48 rfl rfl ?_
          refine bw_bipush 8 dX4_codesIn_49 (by decide) ?_
          refine bw_iload_n 1 dX4_codesIn_51 rfl rfl ?_
          refine bw_imul dX4_codesIn_52 ?_
          refine bw_lushr dX4_codesIn_53 ?_
          refine bw_lconst 0 dX4_codesIn_54 (by decide) ?_
          refine bw_lcmp dX4_codesIn_55 ?_
          refine bw_if_eq 63 dX4_codesIn_56 (by decide) (fun c_17 => ?_) (fun c_17 => ?_)
          · have hf := bw_pos c_17 hf
            refine bw_iconst 0 dX4_codesIn_63 (by decide) ?_
            refine bw_istore_n [(3, .int 0), (0, .long x0), (2, .int x2)] dX4_codesIn_64 rfl (by decide) rfl ?_
            refine bw_iload_n 0 dX4_codesIn_65 rfl rfl ?_
            refine bw_if_eq 73 dX4_codesIn_66 (by decide) (fun _ => ?_) (fun c => absurd c (by decide))
            refine bw_iload_n 2 dX4_codesIn_73 rfl rfl ?_
            cases Option.some.inj hf
            exact bw_ret rfl rfl (Nat.le_of_ble_eq_true rfl) (Nat.le_of_ble_eq_true rfl) dX4_codesIn_74 ⟨rfl, rfl⟩
          · have hf := bw_neg c_17 hf
            refine bw_iconst 1 dX4_codesIn_59 (by decide) ?_
            refine bw_goto 64 dX4_codesIn_60 (by decide) ?_
            refine bw_istore_n [(3, .int 1), (0, .long x0), (2, .int x2)] dX4_codesIn_64 rfl (by decide) rfl ?_
            refine bw_iload_n 0 dX4_codesIn_65 rfl rfl ?_
            refine bw_if_eq 73 dX4_codesIn_66 (by decide) (fun c => absurd c (by decide)) (fun _ => ?_)
            refine bw_iconst 0 dX4_codesIn_69 (by decide) ?_
            refine bw_goto 74 dX4_codesIn_70 (by decide) ?_
            cases Option.some.inj hf
            exact bw_ret rfl rfl (Nat.le_of_ble_eq_true rfl) (Nat.le_of_ble_eq_true rfl) dX4_codesIn_74 ⟨rfl, rfl⟩
      · have hf := bw_neg c_15 hf
        refine bw_lload_n 0 dX4_codesIn_16 rfl rfl ?_
        refine bw_iload_n 1 dX4_codesIn_17 rfl rfl ?_
        obtain ⟨q_18, hc_18, hf⟩ := bw_bind hf
        refine bw_callS [.long x0, .int x2] [] [] (s_X4_codeAt l g   x0 x2 _ hc_18) rfl co_X4_codeAt ini_X4 ml_X4_180 st_X4_codeAt ar_X4_codeAt ⟨Nat.le_of_ble_eq_true rfl, Nat.le_of_ble_eq_true rfl⟩ ⟨Nat.le_of_ble_eq_true rfl, Nat.le_of_ble_eq_true rfl⟩ (bw_pick1 0 [] rfl rfl (by decide)) (Nat.le_of_ble_eq_true rfl) dX4_codesIn_18 (fun r w1 hq => ?_)
        obtain ⟨rfl, rfl⟩ := hq
        refine bw_perm (ws1 := []) (bw_pick1 0 [] rfl rfl (by decide)) ?_
        refine bw_st (st1 := [.int q_18]) rfl ?_
        refine bw_istore_n [(3, .int q_18), (0, .long x0), (2, .int x2)] dX4_codesIn_21 rfl (by decide) rfl ?_
        refine bw_iload_n 0 dX4_codesIn_22 rfl rfl ?_
        refine bw_bipush 33 dX4_codesIn_23 (by decide) ?_
        refine bw_icmp_lt 34 dX4_codesIn_25 (by decide) (fun c_19 => ?_) (fun c_19 => ?_)
        · have hf := bw_pos c_19 hf
          refine bw_iconst 0 dX4_codesIn_34 (by decide) ?_
          cases Option.some.inj hf
          exact bw_ret rfl rfl (Nat.le_of_ble_eq_true rfl) (Nat.le_of_ble_eq_true rfl) dX4_codesIn_35 ⟨rfl, rfl⟩
        · have hf := bw_neg c_19 hf
          refine bw_iload_n 0 dX4_codesIn_28 rfl rfl ?_
          refine bw_bipush 126 dX4_codesIn_29 (by decide) ?_
          refine bw_icmp_le 36 dX4_codesIn_31 (by decide) (fun c_20 => ?_) (fun c_20 => ?_)
          · have hf := bw_pos c_20 hf
            refine bw_iinc 2 (x2 + 1) [(2, .int ((x2 + 1))), (3, .int q_18), (0, .long x0)] dX4_codesIn_36 rfl rfl (by decide) rfl ?_
            refine bw_goto 2 dX4_codesIn_39 (by decide) ?_
            refine bw_lv [2, 0] rfl ?_
            exact ih  x0 ((x2 + 1)) _ hf
          · have hf := bw_neg c_20 hf
            refine bw_iconst 0 dX4_codesIn_34 (by decide) ?_
            cases Option.some.inj hf
            exact bw_ret rfl rfl (Nat.le_of_ble_eq_true rfl) (Nat.le_of_ble_eq_true rfl) dX4_codesIn_35 ⟨rfl, rfl⟩
theorem ar_X4_codesIn : yX4_codesIn.cls ≠ "java/lang/invoke/MethodHandle" ∧ yX4_codesIn.cls ≠ "java/lang/invoke/VarHandle" ∧ (parseMethodDescriptor yX4_codesIn.desc).map (fun d => d.parameters.length) = some 1 := ⟨by decide, by decide, by decide +kernel⟩
def f_X4_codesIn  (p0 : Int64) : Option (Int32) := (f_X4_codesIn_L2 bw_F  p0 0)
set_option maxHeartbeats 4000000 in
set_option maxRecDepth 100000 in
theorem s_X4_codesIn (l : Launch) (g : bwG)   (p0 : Int64) (res : Int32) (hf : f_X4_codesIn  p0 = some res) : bwS l g yX4_codesIn cX4_codesIn 4 (some .int) ({ frames := 1, cells := 0, slots := 0, locals := 22 } : Room) [.long p0] ([]) (fun r w => r = some (.int res) ∧ w = []) := by
  refine bwS_of (by decide) (Nat.le_of_ble_eq_true rfl) ?_
  unfold f_X4_codesIn at hf
  show bwR l g cX4_codesIn 4 RX4 "codesIn" (some .int) ({ frames := 1, cells := 0, slots := 0, locals := 22 } : Room) bwT (bwZ g (fun r w => r = some (.int res) ∧ w = []) 0 0) 0 [(0, .long p0)] [] ([]) 0 0
  refine bw_iconst 0 dX4_codesIn_0 (by decide) ?_
  refine bw_istore_n [(2, .int 0), (0, .long p0)] dX4_codesIn_1 rfl (by decide) rfl ?_
  refine bw_lv [1, 0] rfl ?_
  exact s_X4_codesIn_L2 l g  bw_F  p0 0 _ hf
def f_X4_put_L34 : Nat → (Int32) → (Nat → Int32) → (Int64) → (Int32) → (Int32) → Option (Int32 × (Int32) × (Nat → Int32))
  | 0, _, _, _, _, _ => none
  | fu + 1, vh_pad_length, vh_pad_characters, x1, x3, x4 => (if x4 < 0 then some (vh_pad_length, vh_pad_length, vh_pad_characters) else ((f_X4_codeAt x1 x4).bind fun q_8 => ((f_X2_append vh_pad_length vh_pad_characters ((((q_8 : Int32).toUInt32 % 65536).toInt32))).bind fun q_9 => (f_X4_put_L34 fu q_9.1 q_9.2 x1 x3 ((x4 + (-1)))))))
set_option maxHeartbeats 4000000 in
set_option maxRecDepth 100000 in
theorem s_X4_put_L34 (l : Launch) (g : bwG) (ah ah_court ah_pad ah_history ah_slots ah_seen ah_plain ah_trial ah_pad_characters : Nat) (fu : Nat) : ∀ (vh_pad_length : Int32) (vh_pad_characters : Nat → Int32) (x1 : Int64) (x3 : Int32) (x4 : Int32) (res : Int32 × (Int32) × (Nat → Int32)), f_X4_put_L34 fu vh_pad_length vh_pad_characters x1 x3 x4 = some res → bwR l g cX4_put 5 RX4 "put" (some .int) ({ frames := 2, cells := 0, slots := 0, locals := 45 } : Room) bwT (bwZ g (fun r w => r = some (.int res.1) ∧ w = [(ah, .inr (4, [.ref ah_court, .ref ah_pad, .ref ah_history, .ref ah_slots, .ref ah_seen, .ref ah_plain, .ref ah_trial])), (ah_pad, .inr (2, [.ref ah_pad_characters, .int res.2.1])), (ah_pad_characters, .inl (g.2.2.1, 60, .inl res.2.2))]) 0 0) 34 [(0, .ref ah), (1, .long x1), (3, .int x3), (4, .int x4)] [] ([(ah, .inr (4, [.ref ah_court, .ref ah_pad, .ref ah_history, .ref ah_slots, .ref ah_seen, .ref ah_plain, .ref ah_trial])), (ah_pad, .inr (2, [.ref ah_pad_characters, .int vh_pad_length])), (ah_pad_characters, .inl (g.2.2.1, 60, .inl vh_pad_characters))]) 0 0 := by
  induction fu with
  | zero => intro vh_pad_length vh_pad_characters x1 x3 x4 res hf; exact absurd hf (by intro h; cases h)
  | succ fu ih =>
    intro vh_pad_length vh_pad_characters x1 x3 x4 res hf
    rw [f_X4_put_L34] at hf
    refine bw_iload 3 dX4_put_34 rfl ?_
    refine bw_if_lt 59 dX4_put_36 (by decide) (fun c_7 => ?_) (fun c_7 => ?_)
    · have hf := bw_pos c_7 hf
      refine bw_aload_n 0 dX4_put_59 rfl rfl ?_
      refine bw_gf bkX4 0 1 (by decide) fl_X4_19 rfl rfl dX4_put_60 ?_
      refine bw_gf bkX2 1 1 (by decide) fl_X4_97 rfl rfl dX4_put_63 ?_
      cases Option.some.inj hf
      exact bw_ret rfl rfl (Nat.le_of_ble_eq_true rfl) (Nat.le_of_ble_eq_true rfl) dX4_put_66 ⟨rfl, rfl⟩
    · have hf := bw_neg c_7 hf
      refine bw_aload_n 0 dX4_put_39 rfl rfl ?_
      refine bw_gf bkX4 0 1 (by decide) fl_X4_19 rfl rfl dX4_put_40 ?_
      refine bw_lload_n 1 dX4_put_43 rfl rfl ?_
      refine bw_iload 3 dX4_put_44 rfl ?_
      obtain ⟨q_8, hc_8, hf⟩ := bw_bind hf
      refine bw_callS [.long x1, .int x4] [.ref ah_pad] [(ah, .inr (4, [.ref ah_court, .ref ah_pad, .ref ah_history, .ref ah_slots, .ref ah_seen, .ref ah_plain, .ref ah_trial])), (ah_pad, .inr (2, [.ref ah_pad_characters, .int vh_pad_length])), (ah_pad_characters, .inl (g.2.2.1, 60, .inl vh_pad_characters))] (s_X4_codeAt l g   x1 x4 _ hc_8) rfl co_X4_codeAt ini_X4 ml_X4_180 st_X4_codeAt ar_X4_codeAt ⟨Nat.le_of_ble_eq_true rfl, Nat.le_of_ble_eq_true rfl⟩ ⟨Nat.le_of_ble_eq_true rfl, Nat.le_of_ble_eq_true rfl⟩ (bw_pick1 3 [0, 1, 2] rfl rfl (by decide)) (Nat.le_of_ble_eq_true rfl) dX4_put_46 (fun r w1 hq => ?_)
      obtain ⟨rfl, rfl⟩ := hq
      refine bw_perm (ws1 := [(ah, .inr (4, [.ref ah_court, .ref ah_pad, .ref ah_history, .ref ah_slots, .ref ah_seen, .ref ah_plain, .ref ah_trial])), (ah_pad, .inr (2, [.ref ah_pad_characters, .int vh_pad_length])), (ah_pad_characters, .inl (g.2.2.1, 60, .inl vh_pad_characters))]) (bw_pick1 3 [0, 1, 2] rfl rfl (by decide)) ?_
      refine bw_st (st1 := [.int q_8, .ref ah_pad]) rfl ?_
      refine bw_i2c dX4_put_49 ?_
      obtain ⟨q_9, hc_9, hf⟩ := bw_bind hf
      refine bw_callV [.int ((((q_8 : Int32).toUInt32 % 65536).toInt32))] [] [(ah, .inr (4, [.ref ah_court, .ref ah_pad, .ref ah_history, .ref ah_slots, .ref ah_seen, .ref ah_plain, .ref ah_trial]))] 0 2 (s_X2_append l g ah_pad ah_pad_characters vh_pad_length vh_pad_characters ((((q_8 : Int32).toUInt32 % 65536).toInt32)) _ hc_9) rfl co_X2_append ini_X2 ml_X4_184 im_X2_append se_X2_append ar_X2_append ⟨Nat.le_of_ble_eq_true rfl, Nat.le_of_ble_eq_true rfl⟩ ⟨Nat.le_of_ble_eq_true rfl, Nat.le_of_ble_eq_true rfl⟩ rfl rfl (bw_pick1 3 [1, 2, 0] rfl rfl (by decide)) (Nat.le_of_ble_eq_true rfl) dX4_put_50 (fun r w1 hq => ?_)
      obtain ⟨rfl, rfl⟩ := hq
      refine bw_perm (ws1 := [(ah, .inr (4, [.ref ah_court, .ref ah_pad, .ref ah_history, .ref ah_slots, .ref ah_seen, .ref ah_plain, .ref ah_trial])), (ah_pad, .inr (2, [.ref ah_pad_characters, .int q_9.1])), (ah_pad_characters, .inl (g.2.2.1, 60, .inl q_9.2))]) (bw_pick1 3 [0, 1, 2] rfl rfl (by decide)) ?_
      refine bw_st (st1 := []) rfl ?_
      refine bw_iinc 3 (x4 + (-1)) [(4, .int ((x4 + (-1)))), (0, .ref ah), (1, .long x1), (3, .int x3)] dX4_put_53 rfl rfl (by decide) rfl ?_
      refine bw_goto 34 dX4_put_56 (by decide) ?_
      refine bw_lv [1, 2, 3, 0] rfl ?_
      exact ih q_9.1 q_9.2 x1 x3 ((x4 + (-1))) _ hf
theorem ar_X4_put : yX4_put.cls ≠ "java/lang/invoke/MethodHandle" ∧ yX4_put.cls ≠ "java/lang/invoke/VarHandle" ∧ (parseMethodDescriptor yX4_put.desc).map (fun d => d.parameters.length) = some 1 := ⟨by decide, by decide, by decide +kernel⟩
def f_X4_put (vh_pad_length : Int32) (vh_pad_characters : Nat → Int32) (p0 : Int64) : Option (Int32 × (Int32) × (Nat → Int32)) := ((f_X4_codesIn p0).bind fun q_10 => (if q_10 = 0 then some ((-1000002), vh_pad_length, vh_pad_characters) else (if (vh_pad_length + q_10) ≤ 60 then (f_X4_put_L34 bw_F vh_pad_length vh_pad_characters p0 q_10 ((q_10 - 1))) else some ((-1000004), vh_pad_length, vh_pad_characters))))
set_option maxHeartbeats 4000000 in
set_option maxRecDepth 100000 in
theorem s_X4_put (l : Launch) (g : bwG) (ah ah_court ah_pad ah_history ah_slots ah_seen ah_plain ah_trial ah_pad_characters : Nat) (vh_pad_length : Int32) (vh_pad_characters : Nat → Int32) (p0 : Int64) (res : Int32 × (Int32) × (Nat → Int32)) (hf : f_X4_put vh_pad_length vh_pad_characters p0 = some res) : bwS l g yX4_put cX4_put 5 (some .int) ({ frames := 2, cells := 0, slots := 0, locals := 45 } : Room) [.ref ah, .long p0] ([(ah, .inr (4, [.ref ah_court, .ref ah_pad, .ref ah_history, .ref ah_slots, .ref ah_seen, .ref ah_plain, .ref ah_trial])), (ah_pad, .inr (2, [.ref ah_pad_characters, .int vh_pad_length])), (ah_pad_characters, .inl (g.2.2.1, 60, .inl vh_pad_characters))]) (fun r w => r = some (.int res.1) ∧ w = [(ah, .inr (4, [.ref ah_court, .ref ah_pad, .ref ah_history, .ref ah_slots, .ref ah_seen, .ref ah_plain, .ref ah_trial])), (ah_pad, .inr (2, [.ref ah_pad_characters, .int res.2.1])), (ah_pad_characters, .inl (g.2.2.1, 60, .inl res.2.2))]) := by
  refine bwS_of (by decide) (Nat.le_of_ble_eq_true rfl) ?_
  unfold f_X4_put at hf
  show bwR l g cX4_put 5 RX4 "put" (some .int) ({ frames := 2, cells := 0, slots := 0, locals := 45 } : Room) bwT (bwZ g (fun r w => r = some (.int res.1) ∧ w = [(ah, .inr (4, [.ref ah_court, .ref ah_pad, .ref ah_history, .ref ah_slots, .ref ah_seen, .ref ah_plain, .ref ah_trial])), (ah_pad, .inr (2, [.ref ah_pad_characters, .int res.2.1])), (ah_pad_characters, .inl (g.2.2.1, 60, .inl res.2.2))]) 0 0) 0 [(0, .ref ah), (1, .long p0)] [] ([(ah, .inr (4, [.ref ah_court, .ref ah_pad, .ref ah_history, .ref ah_slots, .ref ah_seen, .ref ah_plain, .ref ah_trial])), (ah_pad, .inr (2, [.ref ah_pad_characters, .int vh_pad_length])), (ah_pad_characters, .inl (g.2.2.1, 60, .inl vh_pad_characters))]) 0 0
  refine bw_lload_n 1 dX4_put_0 rfl rfl ?_
  obtain ⟨q_10, hc_10, hf⟩ := bw_bind hf
  refine bw_callS [.long p0] [] [(ah, .inr (4, [.ref ah_court, .ref ah_pad, .ref ah_history, .ref ah_slots, .ref ah_seen, .ref ah_plain, .ref ah_trial])), (ah_pad, .inr (2, [.ref ah_pad_characters, .int vh_pad_length])), (ah_pad_characters, .inl (g.2.2.1, 60, .inl vh_pad_characters))] (s_X4_codesIn l g   p0 _ hc_10) rfl co_X4_codesIn ini_X4 ml_X4_176 st_X4_codesIn ar_X4_codesIn ⟨Nat.le_of_ble_eq_true rfl, Nat.le_of_ble_eq_true rfl⟩ ⟨Nat.le_of_ble_eq_true rfl, Nat.le_of_ble_eq_true rfl⟩ (bw_pick1 3 [0, 1, 2] rfl rfl (by decide)) (Nat.le_of_ble_eq_true rfl) dX4_put_1 (fun r w1 hq => ?_)
  obtain ⟨rfl, rfl⟩ := hq
  refine bw_perm (ws1 := [(ah, .inr (4, [.ref ah_court, .ref ah_pad, .ref ah_history, .ref ah_slots, .ref ah_seen, .ref ah_plain, .ref ah_trial])), (ah_pad, .inr (2, [.ref ah_pad_characters, .int vh_pad_length])), (ah_pad_characters, .inl (g.2.2.1, 60, .inl vh_pad_characters))]) (bw_pick1 3 [0, 1, 2] rfl rfl (by decide)) ?_
  refine bw_st (st1 := [.int q_10]) rfl ?_
  refine bw_istore_n [(3, .int q_10), (0, .ref ah), (1, .long p0)] dX4_put_4 rfl (by decide) rfl ?_
  refine bw_iload_n 0 dX4_put_5 rfl rfl ?_
  refine bw_if_ne 12 dX4_put_6 (by decide) (fun c_11 => ?_) (fun c_11 => ?_)
  · have hf := bw_neg c_11 hf
    refine bw_aload_n 1 dX4_put_12 rfl rfl ?_
    refine bw_gf bkX4 0 1 (by decide) fl_X4_19 rfl rfl dX4_put_13 ?_
    refine bw_gf bkX2 1 1 (by decide) fl_X4_97 rfl rfl dX4_put_16 ?_
    refine bw_iload_n 0 dX4_put_19 rfl rfl ?_
    refine bw_iadd dX4_put_20 ?_
    refine bw_bipush 60 dX4_put_21 (by decide) ?_
    refine bw_icmp_le 29 dX4_put_23 (by decide) (fun c_12 => ?_) (fun c_12 => ?_)
    · have hf := bw_pos c_12 hf
      refine bw_iload_n 0 dX4_put_29 rfl rfl ?_
      refine bw_iconst 1 dX4_put_30 (by decide) ?_
      refine bw_isub dX4_put_31 ?_
      refine bw_istore [(4, .int ((q_10 - 1))), (3, .int q_10), (0, .ref ah), (1, .long p0)] dX4_put_32 (by decide) rfl ?_
      refine bw_lv [2, 3, 1, 0] rfl ?_
      exact s_X4_put_L34 l g ah ah_court ah_pad ah_history ah_slots ah_seen ah_plain ah_trial ah_pad_characters bw_F vh_pad_length vh_pad_characters p0 q_10 ((q_10 - 1)) _ hf
    · have hf := bw_neg c_12 hf
      refine bw_ldc ct_X4_71 dX4_put_26 ?_
      cases Option.some.inj hf
      exact bw_ret rfl rfl (Nat.le_of_ble_eq_true rfl) (Nat.le_of_ble_eq_true rfl) dX4_put_28 ⟨rfl, rfl⟩
  · have hf := bw_pos c_11 hf
    refine bw_ldc ct_X4_47 dX4_put_9 ?_
    cases Option.some.inj hf
    exact bw_ret rfl rfl (Nat.le_of_ble_eq_true rfl) (Nat.le_of_ble_eq_true rfl) dX4_put_11 ⟨rfl, rfl⟩
theorem ar_X4_wipe : yX4_wipe.cls ≠ "java/lang/invoke/MethodHandle" ∧ yX4_wipe.cls ≠ "java/lang/invoke/VarHandle" ∧ (parseMethodDescriptor yX4_wipe.desc).map (fun d => d.parameters.length) = some 0 := ⟨by decide, by decide, by decide +kernel⟩
def f_X4_wipe (vh_pad_length : Int32)  : Option (Int32 × (Int32)) := some (vh_pad_length, 0)
set_option maxHeartbeats 4000000 in
set_option maxRecDepth 100000 in
theorem s_X4_wipe (l : Launch) (g : bwG) (ah ah_court ah_pad ah_history ah_slots ah_seen ah_plain ah_trial ah_pad_characters : Nat) (vh_pad_length : Int32)  (res : Int32 × (Int32)) (hf : f_X4_wipe vh_pad_length  = some res) : bwS l g yX4_wipe cX4_wipe 2 (some .int) ({ frames := 0, cells := 0, slots := 0, locals := 0 } : Room) [.ref ah] ([(ah, .inr (4, [.ref ah_court, .ref ah_pad, .ref ah_history, .ref ah_slots, .ref ah_seen, .ref ah_plain, .ref ah_trial])), (ah_pad, .inr (2, [.ref ah_pad_characters, .int vh_pad_length]))]) (fun r w => r = some (.int res.1) ∧ w = [(ah, .inr (4, [.ref ah_court, .ref ah_pad, .ref ah_history, .ref ah_slots, .ref ah_seen, .ref ah_plain, .ref ah_trial])), (ah_pad, .inr (2, [.ref ah_pad_characters, .int res.2]))]) := by
  refine bwS_of (by decide) (Nat.le_of_ble_eq_true rfl) ?_
  unfold f_X4_wipe at hf
  show bwR l g cX4_wipe 2 RX4 "wipe" (some .int) ({ frames := 0, cells := 0, slots := 0, locals := 0 } : Room) bwT (bwZ g (fun r w => r = some (.int res.1) ∧ w = [(ah, .inr (4, [.ref ah_court, .ref ah_pad, .ref ah_history, .ref ah_slots, .ref ah_seen, .ref ah_plain, .ref ah_trial])), (ah_pad, .inr (2, [.ref ah_pad_characters, .int res.2]))]) 0 0) 0 [(0, .ref ah)] [] ([(ah, .inr (4, [.ref ah_court, .ref ah_pad, .ref ah_history, .ref ah_slots, .ref ah_seen, .ref ah_plain, .ref ah_trial])), (ah_pad, .inr (2, [.ref ah_pad_characters, .int vh_pad_length]))]) 0 0
  refine bw_aload_n 0 dX4_wipe_0 rfl rfl ?_
  refine bw_gf bkX4 0 1 (by decide) fl_X4_19 rfl rfl dX4_wipe_1 ?_
  refine bw_gf bkX2 1 1 (by decide) fl_X4_97 rfl rfl dX4_wipe_4 ?_
  refine bw_istore_n [(1, .int vh_pad_length), (0, .ref ah)] dX4_wipe_7 rfl (by decide) rfl ?_
  refine bw_aload_n 1 dX4_wipe_8 rfl rfl ?_
  refine bw_gf bkX4 0 1 (by decide) fl_X4_19 rfl rfl dX4_wipe_9 ?_
  refine bw_iconst 0 dX4_wipe_12 (by decide) ?_
  refine bw_pf bkX2 1 1 ([(ah, .inr (4, [.ref ah_court, .ref ah_pad, .ref ah_history, .ref ah_slots, .ref ah_seen, .ref ah_plain, .ref ah_trial])), (ah_pad, .inr (2, [.ref ah_pad_characters, .int 0]))]) (by decide) fl_X4_97 rfl rfl rfl rfl rfl (Nat.le_of_ble_eq_true rfl) rfl dX4_wipe_13 ?_
  refine bw_iload_n 0 dX4_wipe_16 rfl rfl ?_
  cases Option.some.inj hf
  exact bw_ret rfl rfl (Nat.le_of_ble_eq_true rfl) (Nat.le_of_ble_eq_true rfl) dX4_wipe_17 ⟨rfl, rfl⟩
theorem ar_X4_fault : yX4_fault.cls ≠ "java/lang/invoke/MethodHandle" ∧ yX4_fault.cls ≠ "java/lang/invoke/VarHandle" ∧ (parseMethodDescriptor yX4_fault.desc).map (fun d => d.parameters.length) = some 0 := ⟨by decide, by decide, by decide +kernel⟩
def f_X4_fault (vh_pad_length : Int32) (vh_pad_characters : Nat → Int32)  : Option (Int32) := ((f_X2_firstFault vh_pad_length vh_pad_characters).bind fun q_2 => some q_2)
set_option maxHeartbeats 4000000 in
set_option maxRecDepth 100000 in
theorem s_X4_fault (l : Launch) (g : bwG) (ah ah_court ah_pad ah_history ah_slots ah_seen ah_plain ah_trial ah_pad_characters : Nat) (vh_pad_length : Int32) (vh_pad_characters : Nat → Int32)  (res : Int32) (hf : f_X4_fault vh_pad_length vh_pad_characters  = some res) : bwS l g yX4_fault cX4_fault 1 (some .int) ({ frames := 2, cells := 0, slots := 0, locals := 44 } : Room) [.ref ah] ([(ah, .inr (4, [.ref ah_court, .ref ah_pad, .ref ah_history, .ref ah_slots, .ref ah_seen, .ref ah_plain, .ref ah_trial])), (ah_pad, .inr (2, [.ref ah_pad_characters, .int vh_pad_length])), (ah_pad_characters, .inl (g.2.2.1, 60, .inl vh_pad_characters))]) (fun r w => r = some (.int res) ∧ w = [(ah, .inr (4, [.ref ah_court, .ref ah_pad, .ref ah_history, .ref ah_slots, .ref ah_seen, .ref ah_plain, .ref ah_trial])), (ah_pad, .inr (2, [.ref ah_pad_characters, .int vh_pad_length])), (ah_pad_characters, .inl (g.2.2.1, 60, .inl vh_pad_characters))]) := by
  refine bwS_of (by decide) (Nat.le_of_ble_eq_true rfl) ?_
  unfold f_X4_fault at hf
  show bwR l g cX4_fault 1 RX4 "fault" (some .int) ({ frames := 2, cells := 0, slots := 0, locals := 44 } : Room) bwT (bwZ g (fun r w => r = some (.int res) ∧ w = [(ah, .inr (4, [.ref ah_court, .ref ah_pad, .ref ah_history, .ref ah_slots, .ref ah_seen, .ref ah_plain, .ref ah_trial])), (ah_pad, .inr (2, [.ref ah_pad_characters, .int vh_pad_length])), (ah_pad_characters, .inl (g.2.2.1, 60, .inl vh_pad_characters))]) 0 0) 0 [(0, .ref ah)] [] ([(ah, .inr (4, [.ref ah_court, .ref ah_pad, .ref ah_history, .ref ah_slots, .ref ah_seen, .ref ah_plain, .ref ah_trial])), (ah_pad, .inr (2, [.ref ah_pad_characters, .int vh_pad_length])), (ah_pad_characters, .inl (g.2.2.1, 60, .inl vh_pad_characters))]) 0 0
  refine bw_aload_n 0 dX4_fault_0 rfl rfl ?_
  refine bw_gf bkX4 0 1 (by decide) fl_X4_19 rfl rfl dX4_fault_1 ?_
  obtain ⟨q_2, hc_2, hf⟩ := bw_bind hf
  refine bw_callV [] [] [(ah, .inr (4, [.ref ah_court, .ref ah_pad, .ref ah_history, .ref ah_slots, .ref ah_seen, .ref ah_plain, .ref ah_trial]))] 0 2 (s_X2_firstFault l g ah_pad ah_pad_characters vh_pad_length vh_pad_characters  _ hc_2) rfl co_X2_firstFault ini_X2 ml_X4_85 im_X2_firstFault se_X2_firstFault ar_X2_firstFault ⟨Nat.le_of_ble_eq_true rfl, Nat.le_of_ble_eq_true rfl⟩ ⟨Nat.le_of_ble_eq_true rfl, Nat.le_of_ble_eq_true rfl⟩ rfl rfl (bw_pick1 3 [1, 2, 0] rfl rfl (by decide)) (Nat.le_of_ble_eq_true rfl) dX4_fault_4 (fun r w1 hq => ?_)
  obtain ⟨rfl, rfl⟩ := hq
  refine bw_perm (ws1 := [(ah, .inr (4, [.ref ah_court, .ref ah_pad, .ref ah_history, .ref ah_slots, .ref ah_seen, .ref ah_plain, .ref ah_trial])), (ah_pad, .inr (2, [.ref ah_pad_characters, .int vh_pad_length])), (ah_pad_characters, .inl (g.2.2.1, 60, .inl vh_pad_characters))]) (bw_pick1 3 [0, 1, 2] rfl rfl (by decide)) ?_
  refine bw_st (st1 := [.int q_2]) rfl ?_
  cases Option.some.inj hf
  exact bw_ret rfl rfl (Nat.le_of_ble_eq_true rfl) (Nat.le_of_ble_eq_true rfl) dX4_fault_7 ⟨rfl, rfl⟩
theorem ar_X4_isSlot : yX4_isSlot.cls ≠ "java/lang/invoke/MethodHandle" ∧ yX4_isSlot.cls ≠ "java/lang/invoke/VarHandle" ∧ (parseMethodDescriptor yX4_isSlot.desc).map (fun d => d.parameters.length) = some 1 := ⟨by decide, by decide, by decide +kernel⟩
def f_X4_isSlot  (p0 : Int32) : Option (Int32) := (if p0 < 0 then some 0 else (if 2 ≤ p0 then some 0 else some 1))
set_option maxHeartbeats 4000000 in
set_option maxRecDepth 100000 in
theorem s_X4_isSlot (l : Launch) (g : bwG)   (p0 : Int32) (res : Int32) (hf : f_X4_isSlot  p0 = some res) : bwS l g yX4_isSlot cX4_isSlot 1 (some .boolean) ({ frames := 0, cells := 0, slots := 0, locals := 0 } : Room) [.int p0] ([]) (fun r w => r = some (.int res) ∧ w = []) := by
  refine bwS_of (by decide) (Nat.le_of_ble_eq_true rfl) ?_
  unfold f_X4_isSlot at hf
  show bwR l g cX4_isSlot 1 RX4 "isSlot" (some .boolean) ({ frames := 0, cells := 0, slots := 0, locals := 0 } : Room) bwT (bwZ g (fun r w => r = some (.int res) ∧ w = []) 0 0) 0 [(0, .int p0)] [] ([]) 0 0
  refine bw_iload_n 0 dX4_isSlot_0 rfl rfl ?_
  refine bw_if_lt 13 dX4_isSlot_1 (by decide) (fun c_3 => ?_) (fun c_3 => ?_)
  · have hf := bw_pos c_3 hf
    refine bw_iconst 0 dX4_isSlot_13 (by decide) ?_
    cases Option.some.inj hf
    exact bw_ret rfl rfl (Nat.le_of_ble_eq_true rfl) (Nat.le_of_ble_eq_true rfl) dX4_isSlot_14 ⟨rfl, rfl⟩
  · have hf := bw_neg c_3 hf
    refine bw_iload_n 0 dX4_isSlot_4 rfl rfl ?_
    refine bw_iconst 2 dX4_isSlot_5 (by decide) ?_
    refine bw_icmp_ge 13 dX4_isSlot_6 (by decide) (fun c_4 => ?_) (fun c_4 => ?_)
    · have hf := bw_pos c_4 hf
      refine bw_iconst 0 dX4_isSlot_13 (by decide) ?_
      cases Option.some.inj hf
      exact bw_ret rfl rfl (Nat.le_of_ble_eq_true rfl) (Nat.le_of_ble_eq_true rfl) dX4_isSlot_14 ⟨rfl, rfl⟩
    · have hf := bw_neg c_4 hf
      refine bw_iconst 1 dX4_isSlot_9 (by decide) ?_
      refine bw_goto 14 dX4_isSlot_10 (by decide) ?_
      cases Option.some.inj hf
      exact bw_ret rfl rfl (Nat.le_of_ble_eq_true rfl) (Nat.le_of_ble_eq_true rfl) dX4_isSlot_14 ⟨rfl, rfl⟩
