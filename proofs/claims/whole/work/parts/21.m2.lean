theorem ar_X5_takesOne : yX5_takesOne.cls ≠ "java/lang/invoke/MethodHandle" ∧ yX5_takesOne.cls ≠ "java/lang/invoke/VarHandle" ∧ (parseMethodDescriptor yX5_takesOne.desc).map (fun d => d.parameters.length) = some 1 := ⟨by decide, by decide, by decide +kernel⟩
def f_X5_takesOne (vh_textLong : Int32) (vh_spot : Int32) (vh_text : Nat → Int32) (p0 : Int32) : Option (Int32 × (Int32)) := ((f_X5_isHere vh_textLong vh_spot vh_text p0 p0).bind fun q_5 => (if q_5 = 0 then (if bw_nb q_5 then some (q_5, (vh_spot + 0)) else none) else (if bw_nb q_5 then some (q_5, (vh_spot + 1)) else none)))
set_option maxHeartbeats 4000000 in
set_option maxRecDepth 100000 in
theorem s_X5_takesOne (l : Launch) (g : bwG) (ah ah_all ah_kept ah_history ah_slots ah_isSaved ah_words ah_left ah_seen ah_text ah_signs ah_pauses : Nat) (vh_historyLong : Int32) (vh_groups : Int32) (vh_leftLong : Int32) (vh_textLong : Int32) (vh_spot : Int32) (vh_read : Int32) (vh_text : Nat → Int32) (p0 : Int32) (res : Int32 × (Int32)) (hf : f_X5_takesOne vh_textLong vh_spot vh_text p0 = some res) : bwS l g yX5_takesOne cX5_takesOne 3 (some .boolean) ({ frames := 2, cells := 0, slots := 0, locals := 47 } : Room) [.ref ah, .int p0] ([(ah, .inr (5, [.ref ah_all, .ref ah_kept, .ref ah_history, .int vh_historyLong, .ref ah_slots, .ref ah_isSaved, .ref ah_words, .int vh_groups, .ref ah_left, .int vh_leftLong, .ref ah_seen, .ref ah_text, .int vh_textLong, .int vh_spot, .ref ah_signs, .ref ah_pauses, .int vh_read])), (ah_text, .inl (g.2.1, 60, .inl vh_text))]) (fun r w => r = some (.int res.1) ∧ w = [(ah, .inr (5, [.ref ah_all, .ref ah_kept, .ref ah_history, .int vh_historyLong, .ref ah_slots, .ref ah_isSaved, .ref ah_words, .int vh_groups, .ref ah_left, .int vh_leftLong, .ref ah_seen, .ref ah_text, .int vh_textLong, .int res.2, .ref ah_signs, .ref ah_pauses, .int vh_read])), (ah_text, .inl (g.2.1, 60, .inl vh_text))]) := by
  refine bwS_of (by decide) (Nat.le_of_ble_eq_true rfl) ?_
  unfold f_X5_takesOne at hf
  show bwR l g cX5_takesOne 3 RX5 "takesOne" (some .boolean) ({ frames := 2, cells := 0, slots := 0, locals := 47 } : Room) bwT (bwZ g (fun r w => r = some (.int res.1) ∧ w = [(ah, .inr (5, [.ref ah_all, .ref ah_kept, .ref ah_history, .int vh_historyLong, .ref ah_slots, .ref ah_isSaved, .ref ah_words, .int vh_groups, .ref ah_left, .int vh_leftLong, .ref ah_seen, .ref ah_text, .int vh_textLong, .int res.2, .ref ah_signs, .ref ah_pauses, .int vh_read])), (ah_text, .inl (g.2.1, 60, .inl vh_text))]) 0 0) 0 [(0, .ref ah), (1, .int p0)] [] ([(ah, .inr (5, [.ref ah_all, .ref ah_kept, .ref ah_history, .int vh_historyLong, .ref ah_slots, .ref ah_isSaved, .ref ah_words, .int vh_groups, .ref ah_left, .int vh_leftLong, .ref ah_seen, .ref ah_text, .int vh_textLong, .int vh_spot, .ref ah_signs, .ref ah_pauses, .int vh_read])), (ah_text, .inl (g.2.1, 60, .inl vh_text))]) 0 0
  refine bw_aload_n 0 dX5_takesOne_0 rfl rfl ?_
  refine bw_iload_n 1 dX5_takesOne_1 rfl rfl ?_
  refine bw_iload_n 1 dX5_takesOne_2 rfl rfl ?_
  obtain ⟨q_5, hc_5, hf⟩ := bw_bind hf
  refine bw_callV [.int p0, .int p0] [] [] 0 5 (s_X5_isHere l g ah ah_all ah_kept ah_history ah_slots ah_isSaved ah_words ah_left ah_seen ah_text ah_signs ah_pauses vh_historyLong vh_groups vh_leftLong vh_textLong vh_spot vh_read vh_text p0 p0 _ hc_5) rfl co_X5_isHere ini_X5 ml_X5_187 im_X5_isHere se_X5_isHere ar_X5_isHere ⟨Nat.le_of_ble_eq_true rfl, Nat.le_of_ble_eq_true rfl⟩ ⟨Nat.le_of_ble_eq_true rfl, Nat.le_of_ble_eq_true rfl⟩ rfl rfl (bw_pick1 2 [0, 1] rfl rfl (by decide)) (Nat.le_of_ble_eq_true rfl) dX5_takesOne_3 (fun r w1 hq => ?_)
  obtain ⟨rfl, rfl⟩ := hq
  refine bw_perm (ws1 := [(ah, .inr (5, [.ref ah_all, .ref ah_kept, .ref ah_history, .int vh_historyLong, .ref ah_slots, .ref ah_isSaved, .ref ah_words, .int vh_groups, .ref ah_left, .int vh_leftLong, .ref ah_seen, .ref ah_text, .int vh_textLong, .int vh_spot, .ref ah_signs, .ref ah_pauses, .int vh_read])), (ah_text, .inl (g.2.1, 60, .inl vh_text))]) (bw_pick1 2 [0, 1] rfl rfl (by decide)) ?_
  refine bw_st (st1 := [.int q_5]) rfl ?_
  refine bw_istore_n [(2, .int q_5), (0, .ref ah), (1, .int p0)] dX5_takesOne_6 rfl (by decide) rfl ?_
  refine bw_aload_n 1 dX5_takesOne_7 rfl rfl ?_
  refine bw_dup dX5_takesOne_8 rfl ?_
  refine bw_gf bkX5 0 13 (by decide) fl_X5_184 rfl rfl dX5_takesOne_9 ?_
  refine bw_iload_n 0 dX5_takesOne_12 rfl rfl ?_
  refine bw_if_eq 20 dX5_takesOne_13 (by decide) (fun c_6 => ?_) (fun c_6 => ?_)
  · have hf := bw_pos c_6 hf
    refine bw_iconst 0 dX5_takesOne_20 (by decide) ?_
    refine bw_iadd dX5_takesOne_21 ?_
    refine bw_pf bkX5 0 13 ([(ah, .inr (5, [.ref ah_all, .ref ah_kept, .ref ah_history, .int vh_historyLong, .ref ah_slots, .ref ah_isSaved, .ref ah_words, .int vh_groups, .ref ah_left, .int vh_leftLong, .ref ah_seen, .ref ah_text, .int vh_textLong, .int ((vh_spot + 0)), .ref ah_signs, .ref ah_pauses, .int vh_read])), (ah_text, .inl (g.2.1, 60, .inl vh_text))]) (by decide) fl_X5_184 rfl rfl rfl rfl rfl (Nat.le_of_ble_eq_true rfl) rfl dX5_takesOne_22 ?_
    refine bw_iload_n 0 dX5_takesOne_25 rfl rfl ?_
    obtain ⟨h_7, hf⟩ := bw_chk hf
    cases Option.some.inj hf
    exact bw_ret rfl (bw_nbp h_7) (Nat.le_of_ble_eq_true rfl) (Nat.le_of_ble_eq_true rfl) dX5_takesOne_26 ⟨rfl, rfl⟩
  · have hf := bw_neg c_6 hf
    refine bw_iconst 1 dX5_takesOne_16 (by decide) ?_
    refine bw_goto 21 dX5_takesOne_17 (by decide) ?_
    refine bw_iadd dX5_takesOne_21 ?_
    refine bw_pf bkX5 0 13 ([(ah, .inr (5, [.ref ah_all, .ref ah_kept, .ref ah_history, .int vh_historyLong, .ref ah_slots, .ref ah_isSaved, .ref ah_words, .int vh_groups, .ref ah_left, .int vh_leftLong, .ref ah_seen, .ref ah_text, .int vh_textLong, .int ((vh_spot + 1)), .ref ah_signs, .ref ah_pauses, .int vh_read])), (ah_text, .inl (g.2.1, 60, .inl vh_text))]) (by decide) fl_X5_184 rfl rfl rfl rfl rfl (Nat.le_of_ble_eq_true rfl) rfl dX5_takesOne_22 ?_
    refine bw_iload_n 0 dX5_takesOne_25 rfl rfl ?_
    obtain ⟨h_8, hf⟩ := bw_chk hf
    cases Option.some.inj hf
    exact bw_ret rfl (bw_nbp h_8) (Nat.le_of_ble_eq_true rfl) (Nat.le_of_ble_eq_true rfl) dX5_takesOne_26 ⟨rfl, rfl⟩
theorem ar_X5_readsBow : yX5_readsBow.cls ≠ "java/lang/invoke/MethodHandle" ∧ yX5_readsBow.cls ≠ "java/lang/invoke/VarHandle" ∧ (parseMethodDescriptor yX5_readsBow.desc).map (fun d => d.parameters.length) = some 0 := ⟨by decide, by decide, by decide +kernel⟩
def f_X5_readsBow (vh_textLong : Int32) (vh_spot : Int32) (vh_read : Int32) (vh_text : Nat → Int32) (vh_signs : Nat → Int32) (vh_pauses : Nat → Int32)  : Option (Int32 × (Int32) × (Int32) × (Nat → Int32) × (Nat → Int32)) := ((f_X5_isHere vh_textLong vh_spot vh_text 49 51).bind fun q_24 => (if q_24 = 0 then some (0, vh_spot, vh_read, vh_signs, vh_pauses) else (if bw_in vh_spot 60 then (if bw_in vh_read 30 then (if bw_in vh_read 30 then ((f_X5_takesOne vh_textLong ((vh_spot + 1)) vh_text 114).bind fun q_29 => (if q_29.1 = 0 then ((f_X5_takesOne vh_textLong q_29.2 vh_text 108).bind fun q_31 => (if q_31.1 = 0 then some (0, q_31.2, vh_read, (upd vh_signs (Int32.toNatClampNeg vh_read) ((2 * ((vh_text (Int32.toNatClampNeg vh_spot)) - 49)))), (upd vh_pauses (Int32.toNatClampNeg vh_read) 0)) else ((f_X5_takesOne vh_textLong q_31.2 vh_text 46).bind fun q_33 => (if q_33.1 = 0 then some (1, q_33.2, (vh_read + 1), (upd vh_signs (Int32.toNatClampNeg vh_read) ((2 * ((vh_text (Int32.toNatClampNeg vh_spot)) - 49)))), (upd vh_pauses (Int32.toNatClampNeg vh_read) 0)) else ((f_X5_isHere vh_textLong q_33.2 vh_text 48 57).bind fun q_35 => (if q_35 = 0 then some (0, q_33.2, vh_read, (upd vh_signs (Int32.toNatClampNeg vh_read) ((2 * ((vh_text (Int32.toNatClampNeg vh_spot)) - 49)))), (upd vh_pauses (Int32.toNatClampNeg vh_read) 0)) else (if bw_in q_33.2 60 then (if bw_in vh_read 30 then some (1, (q_33.2 + 1), (vh_read + 1), (upd vh_signs (Int32.toNatClampNeg vh_read) ((2 * ((vh_text (Int32.toNatClampNeg vh_spot)) - 49)))), (upd ((upd vh_pauses (Int32.toNatClampNeg vh_read) 0)) (Int32.toNatClampNeg vh_read) (((vh_text (Int32.toNatClampNeg q_33.2)) - 48)))) else none) else none))))))) else (if bw_in vh_read 30 then (if bw_in vh_read 30 then ((f_X5_takesOne vh_textLong q_29.2 vh_text 46).bind fun q_41 => (if q_41.1 = 0 then some (1, q_41.2, (vh_read + 1), (upd ((upd vh_signs (Int32.toNatClampNeg vh_read) ((2 * ((vh_text (Int32.toNatClampNeg vh_spot)) - 49))))) (Int32.toNatClampNeg vh_read) (((((upd vh_signs (Int32.toNatClampNeg vh_read) ((2 * ((vh_text (Int32.toNatClampNeg vh_spot)) - 49))))) (Int32.toNatClampNeg vh_read)) + 1))), (upd vh_pauses (Int32.toNatClampNeg vh_read) 0)) else ((f_X5_isHere vh_textLong q_41.2 vh_text 48 57).bind fun q_43 => (if q_43 = 0 then some (0, q_41.2, vh_read, (upd ((upd vh_signs (Int32.toNatClampNeg vh_read) ((2 * ((vh_text (Int32.toNatClampNeg vh_spot)) - 49))))) (Int32.toNatClampNeg vh_read) (((((upd vh_signs (Int32.toNatClampNeg vh_read) ((2 * ((vh_text (Int32.toNatClampNeg vh_spot)) - 49))))) (Int32.toNatClampNeg vh_read)) + 1))), (upd vh_pauses (Int32.toNatClampNeg vh_read) 0)) else (if bw_in q_41.2 60 then (if bw_in vh_read 30 then some (1, (q_41.2 + 1), (vh_read + 1), (upd ((upd vh_signs (Int32.toNatClampNeg vh_read) ((2 * ((vh_text (Int32.toNatClampNeg vh_spot)) - 49))))) (Int32.toNatClampNeg vh_read) (((((upd vh_signs (Int32.toNatClampNeg vh_read) ((2 * ((vh_text (Int32.toNatClampNeg vh_spot)) - 49))))) (Int32.toNatClampNeg vh_read)) + 1))), (upd ((upd vh_pauses (Int32.toNatClampNeg vh_read) 0)) (Int32.toNatClampNeg vh_read) (((vh_text (Int32.toNatClampNeg q_41.2)) - 48)))) else none) else none))))) else none) else none))) else none) else none) else none)))
set_option maxHeartbeats 4000000 in
set_option maxRecDepth 100000 in
theorem s_X5_readsBow (l : Launch) (g : bwG) (ah ah_all ah_kept ah_history ah_slots ah_isSaved ah_words ah_left ah_seen ah_text ah_signs ah_pauses : Nat) (vh_historyLong : Int32) (vh_groups : Int32) (vh_leftLong : Int32) (vh_textLong : Int32) (vh_spot : Int32) (vh_read : Int32) (vh_text : Nat → Int32) (vh_signs : Nat → Int32) (vh_pauses : Nat → Int32)  (res : Int32 × (Int32) × (Int32) × (Nat → Int32) × (Nat → Int32)) (hf : f_X5_readsBow vh_textLong vh_spot vh_read vh_text vh_signs vh_pauses  = some res) : bwS l g yX5_readsBow cX5_readsBow 1 (some .boolean) ({ frames := 3, cells := 0, slots := 0, locals := 69 } : Room) [.ref ah] ([(ah, .inr (5, [.ref ah_all, .ref ah_kept, .ref ah_history, .int vh_historyLong, .ref ah_slots, .ref ah_isSaved, .ref ah_words, .int vh_groups, .ref ah_left, .int vh_leftLong, .ref ah_seen, .ref ah_text, .int vh_textLong, .int vh_spot, .ref ah_signs, .ref ah_pauses, .int vh_read])), (ah_text, .inl (g.2.1, 60, .inl vh_text)), (ah_signs, .inl (g.2.1, 30, .inl vh_signs)), (ah_pauses, .inl (g.2.1, 30, .inl vh_pauses))]) (fun r w => r = some (.int res.1) ∧ w = [(ah, .inr (5, [.ref ah_all, .ref ah_kept, .ref ah_history, .int vh_historyLong, .ref ah_slots, .ref ah_isSaved, .ref ah_words, .int vh_groups, .ref ah_left, .int vh_leftLong, .ref ah_seen, .ref ah_text, .int vh_textLong, .int res.2.1, .ref ah_signs, .ref ah_pauses, .int res.2.2.1])), (ah_text, .inl (g.2.1, 60, .inl vh_text)), (ah_signs, .inl (g.2.1, 30, .inl res.2.2.2.1)), (ah_pauses, .inl (g.2.1, 30, .inl res.2.2.2.2))]) := by
  refine bwS_of (by decide) (Nat.le_of_ble_eq_true rfl) ?_
  unfold f_X5_readsBow at hf
  show bwR l g cX5_readsBow 1 RX5 "readsBow" (some .boolean) ({ frames := 3, cells := 0, slots := 0, locals := 69 } : Room) bwT (bwZ g (fun r w => r = some (.int res.1) ∧ w = [(ah, .inr (5, [.ref ah_all, .ref ah_kept, .ref ah_history, .int vh_historyLong, .ref ah_slots, .ref ah_isSaved, .ref ah_words, .int vh_groups, .ref ah_left, .int vh_leftLong, .ref ah_seen, .ref ah_text, .int vh_textLong, .int res.2.1, .ref ah_signs, .ref ah_pauses, .int res.2.2.1])), (ah_text, .inl (g.2.1, 60, .inl vh_text)), (ah_signs, .inl (g.2.1, 30, .inl res.2.2.2.1)), (ah_pauses, .inl (g.2.1, 30, .inl res.2.2.2.2))]) 0 0) 0 [(0, .ref ah)] [] ([(ah, .inr (5, [.ref ah_all, .ref ah_kept, .ref ah_history, .int vh_historyLong, .ref ah_slots, .ref ah_isSaved, .ref ah_words, .int vh_groups, .ref ah_left, .int vh_leftLong, .ref ah_seen, .ref ah_text, .int vh_textLong, .int vh_spot, .ref ah_signs, .ref ah_pauses, .int vh_read])), (ah_text, .inl (g.2.1, 60, .inl vh_text)), (ah_signs, .inl (g.2.1, 30, .inl vh_signs)), (ah_pauses, .inl (g.2.1, 30, .inl vh_pauses))]) 0 0
  refine bw_aload_n 0 dX5_readsBow_0 rfl rfl ?_
  refine bw_bipush 49 dX5_readsBow_1 (by decide) ?_
  refine bw_bipush 51 dX5_readsBow_3 (by decide) ?_
  obtain ⟨q_24, hc_24, hf⟩ := bw_bind hf
  refine bw_callV [.int 49, .int 51] [] [(ah_signs, .inl (g.2.1, 30, .inl vh_signs)), (ah_pauses, .inl (g.2.1, 30, .inl vh_pauses))] 0 5 (s_X5_isHere l g ah ah_all ah_kept ah_history ah_slots ah_isSaved ah_words ah_left ah_seen ah_text ah_signs ah_pauses vh_historyLong vh_groups vh_leftLong vh_textLong vh_spot vh_read vh_text 49 51 _ hc_24) rfl co_X5_isHere ini_X5 ml_X5_187 im_X5_isHere se_X5_isHere ar_X5_isHere ⟨Nat.le_of_ble_eq_true rfl, Nat.le_of_ble_eq_true rfl⟩ ⟨Nat.le_of_ble_eq_true rfl, Nat.le_of_ble_eq_true rfl⟩ rfl rfl (bw_pick1 4 [0, 1, 2, 3] rfl rfl (by decide)) (Nat.le_of_ble_eq_true rfl) dX5_readsBow_5 (fun r w1 hq => ?_)
  obtain ⟨rfl, rfl⟩ := hq
  refine bw_perm (ws1 := [(ah, .inr (5, [.ref ah_all, .ref ah_kept, .ref ah_history, .int vh_historyLong, .ref ah_slots, .ref ah_isSaved, .ref ah_words, .int vh_groups, .ref ah_left, .int vh_leftLong, .ref ah_seen, .ref ah_text, .int vh_textLong, .int vh_spot, .ref ah_signs, .ref ah_pauses, .int vh_read])), (ah_text, .inl (g.2.1, 60, .inl vh_text)), (ah_signs, .inl (g.2.1, 30, .inl vh_signs)), (ah_pauses, .inl (g.2.1, 30, .inl vh_pauses))]) (bw_pick1 4 [2, 3, 0, 1] rfl rfl (by decide)) ?_
  refine bw_st (st1 := [.int q_24]) rfl ?_
  refine bw_if_ne 13 dX5_readsBow_8 (by decide) (fun c_25 => ?_) (fun c_25 => ?_)
  · have hf := bw_neg c_25 hf
    refine bw_aload_n 0 dX5_readsBow_13 rfl rfl ?_
    refine bw_gf bkX5 0 14 (by decide) fl_X5_37 rfl rfl dX5_readsBow_14 ?_
    refine bw_aload_n 0 dX5_readsBow_17 rfl rfl ?_
    refine bw_gf bkX5 0 16 (by decide) fl_X5_141 rfl rfl dX5_readsBow_18 ?_
    refine bw_iconst 2 dX5_readsBow_21 (by decide) ?_
    refine bw_aload_n 0 dX5_readsBow_22 rfl rfl ?_
    refine bw_gf bkX5 0 11 (by decide) fl_X5_34 rfl rfl dX5_readsBow_23 ?_
    refine bw_aload_n 0 dX5_readsBow_26 rfl rfl ?_
    refine bw_gf bkX5 0 13 (by decide) fl_X5_184 rfl rfl dX5_readsBow_27 ?_
    obtain ⟨h_26, hf⟩ := bw_chk hf
    refine bw_iald 1 rfl h_26 dX5_readsBow_30 ?_
    refine bw_bipush 49 dX5_readsBow_31 (by decide) ?_
    refine bw_isub dX5_readsBow_33 ?_
    refine bw_imul dX5_readsBow_34 ?_
    obtain ⟨h_27, hf⟩ := bw_chk hf
    refine bw_iast 2 ([(ah, .inr (5, [.ref ah_all, .ref ah_kept, .ref ah_history, .int vh_historyLong, .ref ah_slots, .ref ah_isSaved, .ref ah_words, .int vh_groups, .ref ah_left, .int vh_leftLong, .ref ah_seen, .ref ah_text, .int vh_textLong, .int vh_spot, .ref ah_signs, .ref ah_pauses, .int vh_read])), (ah_text, .inl (g.2.1, 60, .inl vh_text)), (ah_signs, .inl (g.2.1, 30, .inl ((upd vh_signs (Int32.toNatClampNeg vh_read) ((2 * ((vh_text (Int32.toNatClampNeg vh_spot)) - 49))))))), (ah_pauses, .inl (g.2.1, 30, .inl vh_pauses))]) rfl h_27 rfl dX5_readsBow_35 ?_
    refine bw_aload_n 0 dX5_readsBow_36 rfl rfl ?_
    refine bw_gf bkX5 0 15 (by decide) fl_X5_40 rfl rfl dX5_readsBow_37 ?_
    refine bw_aload_n 0 dX5_readsBow_40 rfl rfl ?_
    refine bw_gf bkX5 0 16 (by decide) fl_X5_141 rfl rfl dX5_readsBow_41 ?_
    refine bw_iconst 0 dX5_readsBow_44 (by decide) ?_
    obtain ⟨h_28, hf⟩ := bw_chk hf
    refine bw_iast 3 ([(ah, .inr (5, [.ref ah_all, .ref ah_kept, .ref ah_history, .int vh_historyLong, .ref ah_slots, .ref ah_isSaved, .ref ah_words, .int vh_groups, .ref ah_left, .int vh_leftLong, .ref ah_seen, .ref ah_text, .int vh_textLong, .int vh_spot, .ref ah_signs, .ref ah_pauses, .int vh_read])), (ah_text, .inl (g.2.1, 60, .inl vh_text)), (ah_signs, .inl (g.2.1, 30, .inl ((upd vh_signs (Int32.toNatClampNeg vh_read) ((2 * ((vh_text (Int32.toNatClampNeg vh_spot)) - 49))))))), (ah_pauses, .inl (g.2.1, 30, .inl ((upd vh_pauses (Int32.toNatClampNeg vh_read) 0))))]) rfl h_28 rfl dX5_readsBow_45 ?_
    refine bw_aload_n 0 dX5_readsBow_46 rfl rfl ?_
    refine bw_dup dX5_readsBow_47 rfl ?_
    refine bw_gf bkX5 0 13 (by decide) fl_X5_184 rfl rfl dX5_readsBow_48 ?_
    refine bw_iconst 1 dX5_readsBow_51 (by decide) ?_
    refine bw_iadd dX5_readsBow_52 ?_
    refine bw_pf bkX5 0 13 ([(ah, .inr (5, [.ref ah_all, .ref ah_kept, .ref ah_history, .int vh_historyLong, .ref ah_slots, .ref ah_isSaved, .ref ah_words, .int vh_groups, .ref ah_left, .int vh_leftLong, .ref ah_seen, .ref ah_text, .int vh_textLong, .int ((vh_spot + 1)), .ref ah_signs, .ref ah_pauses, .int vh_read])), (ah_text, .inl (g.2.1, 60, .inl vh_text)), (ah_signs, .inl (g.2.1, 30, .inl ((upd vh_signs (Int32.toNatClampNeg vh_read) ((2 * ((vh_text (Int32.toNatClampNeg vh_spot)) - 49))))))), (ah_pauses, .inl (g.2.1, 30, .inl ((upd vh_pauses (Int32.toNatClampNeg vh_read) 0))))]) (by decide) fl_X5_184 rfl rfl rfl rfl rfl (Nat.le_of_ble_eq_true rfl) rfl dX5_readsBow_53 ?_
    refine bw_aload_n 0 dX5_readsBow_56 rfl rfl ?_
    refine bw_bipush 114 dX5_readsBow_57 (by decide) ?_
    obtain ⟨q_29, hc_29, hf⟩ := bw_bind hf
    refine bw_callV [.int 114] [] [(ah_signs, .inl (g.2.1, 30, .inl ((upd vh_signs (Int32.toNatClampNeg vh_read) ((2 * ((vh_text (Int32.toNatClampNeg vh_spot)) - 49))))))), (ah_pauses, .inl (g.2.1, 30, .inl ((upd vh_pauses (Int32.toNatClampNeg vh_read) 0))))] 0 5 (s_X5_takesOne l g ah ah_all ah_kept ah_history ah_slots ah_isSaved ah_words ah_left ah_seen ah_text ah_signs ah_pauses vh_historyLong vh_groups vh_leftLong vh_textLong ((vh_spot + 1)) vh_read vh_text 114 _ hc_29) rfl co_X5_takesOne ini_X5 ml_X5_190 im_X5_takesOne se_X5_takesOne ar_X5_takesOne ⟨Nat.le_of_ble_eq_true rfl, Nat.le_of_ble_eq_true rfl⟩ ⟨Nat.le_of_ble_eq_true rfl, Nat.le_of_ble_eq_true rfl⟩ rfl rfl (bw_pick1 4 [0, 1, 2, 3] rfl rfl (by decide)) (Nat.le_of_ble_eq_true rfl) dX5_readsBow_59 (fun r w1 hq => ?_)
    obtain ⟨rfl, rfl⟩ := hq
    refine bw_perm (ws1 := [(ah, .inr (5, [.ref ah_all, .ref ah_kept, .ref ah_history, .int vh_historyLong, .ref ah_slots, .ref ah_isSaved, .ref ah_words, .int vh_groups, .ref ah_left, .int vh_leftLong, .ref ah_seen, .ref ah_text, .int vh_textLong, .int q_29.2, .ref ah_signs, .ref ah_pauses, .int vh_read])), (ah_text, .inl (g.2.1, 60, .inl vh_text)), (ah_signs, .inl (g.2.1, 30, .inl ((upd vh_signs (Int32.toNatClampNeg vh_read) ((2 * ((vh_text (Int32.toNatClampNeg vh_spot)) - 49))))))), (ah_pauses, .inl (g.2.1, 30, .inl ((upd vh_pauses (Int32.toNatClampNeg vh_read) 0))))]) (bw_pick1 4 [2, 3, 0, 1] rfl rfl (by decide)) ?_
    refine bw_st (st1 := [.int q_29.1]) rfl ?_
    refine bw_if_eq 81 dX5_readsBow_62 (by decide) (fun c_30 => ?_) (fun c_30 => ?_)
    · have hf := bw_pos c_30 hf
      refine bw_aload_n 0 dX5_readsBow_81 rfl rfl ?_
      refine bw_bipush 108 dX5_readsBow_82 (by decide) ?_
      obtain ⟨q_31, hc_31, hf⟩ := bw_bind hf
      refine bw_callV [.int 108] [] [(ah_signs, .inl (g.2.1, 30, .inl ((upd vh_signs (Int32.toNatClampNeg vh_read) ((2 * ((vh_text (Int32.toNatClampNeg vh_spot)) - 49))))))), (ah_pauses, .inl (g.2.1, 30, .inl ((upd vh_pauses (Int32.toNatClampNeg vh_read) 0))))] 0 5 (s_X5_takesOne l g ah ah_all ah_kept ah_history ah_slots ah_isSaved ah_words ah_left ah_seen ah_text ah_signs ah_pauses vh_historyLong vh_groups vh_leftLong vh_textLong q_29.2 vh_read vh_text 108 _ hc_31) rfl co_X5_takesOne ini_X5 ml_X5_190 im_X5_takesOne se_X5_takesOne ar_X5_takesOne ⟨Nat.le_of_ble_eq_true rfl, Nat.le_of_ble_eq_true rfl⟩ ⟨Nat.le_of_ble_eq_true rfl, Nat.le_of_ble_eq_true rfl⟩ rfl rfl (bw_pick1 4 [0, 1, 2, 3] rfl rfl (by decide)) (Nat.le_of_ble_eq_true rfl) dX5_readsBow_84 (fun r w1 hq => ?_)
      obtain ⟨rfl, rfl⟩ := hq
      refine bw_perm (ws1 := [(ah, .inr (5, [.ref ah_all, .ref ah_kept, .ref ah_history, .int vh_historyLong, .ref ah_slots, .ref ah_isSaved, .ref ah_words, .int vh_groups, .ref ah_left, .int vh_leftLong, .ref ah_seen, .ref ah_text, .int vh_textLong, .int q_31.2, .ref ah_signs, .ref ah_pauses, .int vh_read])), (ah_text, .inl (g.2.1, 60, .inl vh_text)), (ah_signs, .inl (g.2.1, 30, .inl ((upd vh_signs (Int32.toNatClampNeg vh_read) ((2 * ((vh_text (Int32.toNatClampNeg vh_spot)) - 49))))))), (ah_pauses, .inl (g.2.1, 30, .inl ((upd vh_pauses (Int32.toNatClampNeg vh_read) 0))))]) (bw_pick1 4 [2, 3, 0, 1] rfl rfl (by decide)) ?_
      refine bw_st (st1 := [.int q_31.1]) rfl ?_
      refine bw_if_ne 92 dX5_readsBow_87 (by decide) (fun c_32 => ?_) (fun c_32 => ?_)
      · have hf := bw_neg c_32 hf
        refine bw_aload_n 0 dX5_readsBow_92 rfl rfl ?_
        refine bw_bipush 46 dX5_readsBow_93 (by decide) ?_
        obtain ⟨q_33, hc_33, hf⟩ := bw_bind hf
        refine bw_callV [.int 46] [] [(ah_signs, .inl (g.2.1, 30, .inl ((upd vh_signs (Int32.toNatClampNeg vh_read) ((2 * ((vh_text (Int32.toNatClampNeg vh_spot)) - 49))))))), (ah_pauses, .inl (g.2.1, 30, .inl ((upd vh_pauses (Int32.toNatClampNeg vh_read) 0))))] 0 5 (s_X5_takesOne l g ah ah_all ah_kept ah_history ah_slots ah_isSaved ah_words ah_left ah_seen ah_text ah_signs ah_pauses vh_historyLong vh_groups vh_leftLong vh_textLong q_31.2 vh_read vh_text 46 _ hc_33) rfl co_X5_takesOne ini_X5 ml_X5_190 im_X5_takesOne se_X5_takesOne ar_X5_takesOne ⟨Nat.le_of_ble_eq_true rfl, Nat.le_of_ble_eq_true rfl⟩ ⟨Nat.le_of_ble_eq_true rfl, Nat.le_of_ble_eq_true rfl⟩ rfl rfl (bw_pick1 4 [0, 1, 2, 3] rfl rfl (by decide)) (Nat.le_of_ble_eq_true rfl) dX5_readsBow_95 (fun r w1 hq => ?_)
        obtain ⟨rfl, rfl⟩ := hq
        refine bw_perm (ws1 := [(ah, .inr (5, [.ref ah_all, .ref ah_kept, .ref ah_history, .int vh_historyLong, .ref ah_slots, .ref ah_isSaved, .ref ah_words, .int vh_groups, .ref ah_left, .int vh_leftLong, .ref ah_seen, .ref ah_text, .int vh_textLong, .int q_33.2, .ref ah_signs, .ref ah_pauses, .int vh_read])), (ah_text, .inl (g.2.1, 60, .inl vh_text)), (ah_signs, .inl (g.2.1, 30, .inl ((upd vh_signs (Int32.toNatClampNeg vh_read) ((2 * ((vh_text (Int32.toNatClampNeg vh_spot)) - 49))))))), (ah_pauses, .inl (g.2.1, 30, .inl ((upd vh_pauses (Int32.toNatClampNeg vh_read) 0))))]) (bw_pick1 4 [2, 3, 0, 1] rfl rfl (by decide)) ?_
        refine bw_st (st1 := [.int q_33.1]) rfl ?_
        refine bw_if_eq 145 dX5_readsBow_98 (by decide) (fun c_34 => ?_) (fun c_34 => ?_)
        · have hf := bw_pos c_34 hf
          refine bw_aload_n 0 dX5_readsBow_145 rfl rfl ?_
          refine bw_dup dX5_readsBow_146 rfl ?_
          refine bw_gf bkX5 0 16 (by decide) fl_X5_141 rfl rfl dX5_readsBow_147 ?_
          refine bw_iconst 1 dX5_readsBow_150 (by decide) ?_
          refine bw_iadd dX5_readsBow_151 ?_
          refine bw_pf bkX5 0 16 ([(ah, .inr (5, [.ref ah_all, .ref ah_kept, .ref ah_history, .int vh_historyLong, .ref ah_slots, .ref ah_isSaved, .ref ah_words, .int vh_groups, .ref ah_left, .int vh_leftLong, .ref ah_seen, .ref ah_text, .int vh_textLong, .int q_33.2, .ref ah_signs, .ref ah_pauses, .int ((vh_read + 1))])), (ah_text, .inl (g.2.1, 60, .inl vh_text)), (ah_signs, .inl (g.2.1, 30, .inl ((upd vh_signs (Int32.toNatClampNeg vh_read) ((2 * ((vh_text (Int32.toNatClampNeg vh_spot)) - 49))))))), (ah_pauses, .inl (g.2.1, 30, .inl ((upd vh_pauses (Int32.toNatClampNeg vh_read) 0))))]) (by decide) fl_X5_141 rfl rfl rfl rfl rfl (Nat.le_of_ble_eq_true rfl) rfl dX5_readsBow_152 ?_
          refine bw_iconst 1 dX5_readsBow_155 (by decide) ?_
          cases Option.some.inj hf
          exact bw_ret rfl rfl (Nat.le_of_ble_eq_true rfl) (Nat.le_of_ble_eq_true rfl) dX5_readsBow_156 ⟨rfl, rfl⟩
        · have hf := bw_neg c_34 hf
          refine bw_aload_n 0 dX5_readsBow_101 rfl rfl ?_
          refine bw_bipush 48 dX5_readsBow_102 (by decide) ?_
          refine bw_bipush 57 dX5_readsBow_104 (by decide) ?_
          obtain ⟨q_35, hc_35, hf⟩ := bw_bind hf
          refine bw_callV [.int 48, .int 57] [] [(ah_signs, .inl (g.2.1, 30, .inl ((upd vh_signs (Int32.toNatClampNeg vh_read) ((2 * ((vh_text (Int32.toNatClampNeg vh_spot)) - 49))))))), (ah_pauses, .inl (g.2.1, 30, .inl ((upd vh_pauses (Int32.toNatClampNeg vh_read) 0))))] 0 5 (s_X5_isHere l g ah ah_all ah_kept ah_history ah_slots ah_isSaved ah_words ah_left ah_seen ah_text ah_signs ah_pauses vh_historyLong vh_groups vh_leftLong vh_textLong q_33.2 vh_read vh_text 48 57 _ hc_35) rfl co_X5_isHere ini_X5 ml_X5_187 im_X5_isHere se_X5_isHere ar_X5_isHere ⟨Nat.le_of_ble_eq_true rfl, Nat.le_of_ble_eq_true rfl⟩ ⟨Nat.le_of_ble_eq_true rfl, Nat.le_of_ble_eq_true rfl⟩ rfl rfl (bw_pick1 4 [0, 1, 2, 3] rfl rfl (by decide)) (Nat.le_of_ble_eq_true rfl) dX5_readsBow_106 (fun r w1 hq => ?_)
          obtain ⟨rfl, rfl⟩ := hq
          refine bw_perm (ws1 := [(ah, .inr (5, [.ref ah_all, .ref ah_kept, .ref ah_history, .int vh_historyLong, .ref ah_slots, .ref ah_isSaved, .ref ah_words, .int vh_groups, .ref ah_left, .int vh_leftLong, .ref ah_seen, .ref ah_text, .int vh_textLong, .int q_33.2, .ref ah_signs, .ref ah_pauses, .int vh_read])), (ah_text, .inl (g.2.1, 60, .inl vh_text)), (ah_signs, .inl (g.2.1, 30, .inl ((upd vh_signs (Int32.toNatClampNeg vh_read) ((2 * ((vh_text (Int32.toNatClampNeg vh_spot)) - 49))))))), (ah_pauses, .inl (g.2.1, 30, .inl ((upd vh_pauses (Int32.toNatClampNeg vh_read) 0))))]) (bw_pick1 4 [2, 3, 0, 1] rfl rfl (by decide)) ?_
          refine bw_st (st1 := [.int q_35]) rfl ?_
          refine bw_if_ne 114 dX5_readsBow_109 (by decide) (fun c_36 => ?_) (fun c_36 => ?_)
          · have hf := bw_neg c_36 hf
            refine bw_aload_n 0 dX5_readsBow_114 rfl rfl ?_
            refine bw_gf bkX5 0 15 (by decide) fl_X5_40 rfl rfl dX5_readsBow_115 ?_
            refine bw_aload_n 0 dX5_readsBow_118 rfl rfl ?_
            refine bw_gf bkX5 0 16 (by decide) fl_X5_141 rfl rfl dX5_readsBow_119 ?_
            refine bw_aload_n 0 dX5_readsBow_122 rfl rfl ?_
            refine bw_gf bkX5 0 11 (by decide) fl_X5_34 rfl rfl dX5_readsBow_123 ?_
            refine bw_aload_n 0 dX5_readsBow_126 rfl rfl ?_
            refine bw_gf bkX5 0 13 (by decide) fl_X5_184 rfl rfl dX5_readsBow_127 ?_
            obtain ⟨h_37, hf⟩ := bw_chk hf
            refine bw_iald 1 rfl h_37 dX5_readsBow_130 ?_
            refine bw_bipush 48 dX5_readsBow_131 (by decide) ?_
            refine bw_isub dX5_readsBow_133 ?_
            obtain ⟨h_38, hf⟩ := bw_chk hf
            refine bw_iast 3 ([(ah, .inr (5, [.ref ah_all, .ref ah_kept, .ref ah_history, .int vh_historyLong, .ref ah_slots, .ref ah_isSaved, .ref ah_words, .int vh_groups, .ref ah_left, .int vh_leftLong, .ref ah_seen, .ref ah_text, .int vh_textLong, .int q_33.2, .ref ah_signs, .ref ah_pauses, .int vh_read])), (ah_text, .inl (g.2.1, 60, .inl vh_text)), (ah_signs, .inl (g.2.1, 30, .inl ((upd vh_signs (Int32.toNatClampNeg vh_read) ((2 * ((vh_text (Int32.toNatClampNeg vh_spot)) - 49))))))), (ah_pauses, .inl (g.2.1, 30, .inl ((upd ((upd vh_pauses (Int32.toNatClampNeg vh_read) 0)) (Int32.toNatClampNeg vh_read) (((vh_text (Int32.toNatClampNeg q_33.2)) - 48))))))]) rfl h_38 rfl dX5_readsBow_134 ?_
            refine bw_aload_n 0 dX5_readsBow_135 rfl rfl ?_
            refine bw_dup dX5_readsBow_136 rfl ?_
            refine bw_gf bkX5 0 13 (by decide) fl_X5_184 rfl rfl dX5_readsBow_137 ?_
            refine bw_iconst 1 dX5_readsBow_140 (by decide) ?_
            refine bw_iadd dX5_readsBow_141 ?_
            refine bw_pf bkX5 0 13 ([(ah, .inr (5, [.ref ah_all, .ref ah_kept, .ref ah_history, .int vh_historyLong, .ref ah_slots, .ref ah_isSaved, .ref ah_words, .int vh_groups, .ref ah_left, .int vh_leftLong, .ref ah_seen, .ref ah_text, .int vh_textLong, .int ((q_33.2 + 1)), .ref ah_signs, .ref ah_pauses, .int vh_read])), (ah_text, .inl (g.2.1, 60, .inl vh_text)), (ah_signs, .inl (g.2.1, 30, .inl ((upd vh_signs (Int32.toNatClampNeg vh_read) ((2 * ((vh_text (Int32.toNatClampNeg vh_spot)) - 49))))))), (ah_pauses, .inl (g.2.1, 30, .inl ((upd ((upd vh_pauses (Int32.toNatClampNeg vh_read) 0)) (Int32.toNatClampNeg vh_read) (((vh_text (Int32.toNatClampNeg q_33.2)) - 48))))))]) (by decide) fl_X5_184 rfl rfl rfl rfl rfl (Nat.le_of_ble_eq_true rfl) rfl dX5_readsBow_142 ?_
            refine bw_aload_n 0 dX5_readsBow_145 rfl rfl ?_
            refine bw_dup dX5_readsBow_146 rfl ?_
            refine bw_gf bkX5 0 16 (by decide) fl_X5_141 rfl rfl dX5_readsBow_147 ?_
            refine bw_iconst 1 dX5_readsBow_150 (by decide) ?_
            refine bw_iadd dX5_readsBow_151 ?_
            refine bw_pf bkX5 0 16 ([(ah, .inr (5, [.ref ah_all, .ref ah_kept, .ref ah_history, .int vh_historyLong, .ref ah_slots, .ref ah_isSaved, .ref ah_words, .int vh_groups, .ref ah_left, .int vh_leftLong, .ref ah_seen, .ref ah_text, .int vh_textLong, .int ((q_33.2 + 1)), .ref ah_signs, .ref ah_pauses, .int ((vh_read + 1))])), (ah_text, .inl (g.2.1, 60, .inl vh_text)), (ah_signs, .inl (g.2.1, 30, .inl ((upd vh_signs (Int32.toNatClampNeg vh_read) ((2 * ((vh_text (Int32.toNatClampNeg vh_spot)) - 49))))))), (ah_pauses, .inl (g.2.1, 30, .inl ((upd ((upd vh_pauses (Int32.toNatClampNeg vh_read) 0)) (Int32.toNatClampNeg vh_read) (((vh_text (Int32.toNatClampNeg q_33.2)) - 48))))))]) (by decide) fl_X5_141 rfl rfl rfl rfl rfl (Nat.le_of_ble_eq_true rfl) rfl dX5_readsBow_152 ?_
            refine bw_iconst 1 dX5_readsBow_155 (by decide) ?_
            cases Option.some.inj hf
            exact bw_ret rfl rfl (Nat.le_of_ble_eq_true rfl) (Nat.le_of_ble_eq_true rfl) dX5_readsBow_156 ⟨rfl, rfl⟩
          · have hf := bw_pos c_36 hf
            refine bw_iconst 0 dX5_readsBow_112 (by decide) ?_
            cases Option.some.inj hf
            exact bw_ret rfl rfl (Nat.le_of_ble_eq_true rfl) (Nat.le_of_ble_eq_true rfl) dX5_readsBow_113 ⟨rfl, rfl⟩
      · have hf := bw_pos c_32 hf
        refine bw_iconst 0 dX5_readsBow_90 (by decide) ?_
        cases Option.some.inj hf
        exact bw_ret rfl rfl (Nat.le_of_ble_eq_true rfl) (Nat.le_of_ble_eq_true rfl) dX5_readsBow_91 ⟨rfl, rfl⟩
    · have hf := bw_neg c_30 hf
      refine bw_aload_n 0 dX5_readsBow_65 rfl rfl ?_
      refine bw_gf bkX5 0 14 (by decide) fl_X5_37 rfl rfl dX5_readsBow_66 ?_
      refine bw_aload_n 0 dX5_readsBow_69 rfl rfl ?_
      refine bw_gf bkX5 0 16 (by decide) fl_X5_141 rfl rfl dX5_readsBow_70 ?_
      refine bw_dup2_11 dX5_readsBow_73 rfl rfl ?_
      obtain ⟨h_39, hf⟩ := bw_chk hf
      refine bw_iald 2 rfl h_39 dX5_readsBow_74 ?_
      refine bw_iconst 1 dX5_readsBow_75 (by decide) ?_
      refine bw_iadd dX5_readsBow_76 ?_
      obtain ⟨h_40, hf⟩ := bw_chk hf
      refine bw_iast 2 ([(ah, .inr (5, [.ref ah_all, .ref ah_kept, .ref ah_history, .int vh_historyLong, .ref ah_slots, .ref ah_isSaved, .ref ah_words, .int vh_groups, .ref ah_left, .int vh_leftLong, .ref ah_seen, .ref ah_text, .int vh_textLong, .int q_29.2, .ref ah_signs, .ref ah_pauses, .int vh_read])), (ah_text, .inl (g.2.1, 60, .inl vh_text)), (ah_signs, .inl (g.2.1, 30, .inl ((upd ((upd vh_signs (Int32.toNatClampNeg vh_read) ((2 * ((vh_text (Int32.toNatClampNeg vh_spot)) - 49))))) (Int32.toNatClampNeg vh_read) (((((upd vh_signs (Int32.toNatClampNeg vh_read) ((2 * ((vh_text (Int32.toNatClampNeg vh_spot)) - 49))))) (Int32.toNatClampNeg vh_read)) + 1)))))), (ah_pauses, .inl (g.2.1, 30, .inl ((upd vh_pauses (Int32.toNatClampNeg vh_read) 0))))]) rfl h_40 rfl dX5_readsBow_77 ?_
      refine bw_goto 92 dX5_readsBow_78 (by decide) ?_
      refine bw_aload_n 0 dX5_readsBow_92 rfl rfl ?_
      refine bw_bipush 46 dX5_readsBow_93 (by decide) ?_
      obtain ⟨q_41, hc_41, hf⟩ := bw_bind hf
      refine bw_callV [.int 46] [] [(ah_signs, .inl (g.2.1, 30, .inl ((upd ((upd vh_signs (Int32.toNatClampNeg vh_read) ((2 * ((vh_text (Int32.toNatClampNeg vh_spot)) - 49))))) (Int32.toNatClampNeg vh_read) (((((upd vh_signs (Int32.toNatClampNeg vh_read) ((2 * ((vh_text (Int32.toNatClampNeg vh_spot)) - 49))))) (Int32.toNatClampNeg vh_read)) + 1)))))), (ah_pauses, .inl (g.2.1, 30, .inl ((upd vh_pauses (Int32.toNatClampNeg vh_read) 0))))] 0 5 (s_X5_takesOne l g ah ah_all ah_kept ah_history ah_slots ah_isSaved ah_words ah_left ah_seen ah_text ah_signs ah_pauses vh_historyLong vh_groups vh_leftLong vh_textLong q_29.2 vh_read vh_text 46 _ hc_41) rfl co_X5_takesOne ini_X5 ml_X5_190 im_X5_takesOne se_X5_takesOne ar_X5_takesOne ⟨Nat.le_of_ble_eq_true rfl, Nat.le_of_ble_eq_true rfl⟩ ⟨Nat.le_of_ble_eq_true rfl, Nat.le_of_ble_eq_true rfl⟩ rfl rfl (bw_pick1 4 [0, 1, 2, 3] rfl rfl (by decide)) (Nat.le_of_ble_eq_true rfl) dX5_readsBow_95 (fun r w1 hq => ?_)
      obtain ⟨rfl, rfl⟩ := hq
      refine bw_perm (ws1 := [(ah, .inr (5, [.ref ah_all, .ref ah_kept, .ref ah_history, .int vh_historyLong, .ref ah_slots, .ref ah_isSaved, .ref ah_words, .int vh_groups, .ref ah_left, .int vh_leftLong, .ref ah_seen, .ref ah_text, .int vh_textLong, .int q_41.2, .ref ah_signs, .ref ah_pauses, .int vh_read])), (ah_text, .inl (g.2.1, 60, .inl vh_text)), (ah_signs, .inl (g.2.1, 30, .inl ((upd ((upd vh_signs (Int32.toNatClampNeg vh_read) ((2 * ((vh_text (Int32.toNatClampNeg vh_spot)) - 49))))) (Int32.toNatClampNeg vh_read) (((((upd vh_signs (Int32.toNatClampNeg vh_read) ((2 * ((vh_text (Int32.toNatClampNeg vh_spot)) - 49))))) (Int32.toNatClampNeg vh_read)) + 1)))))), (ah_pauses, .inl (g.2.1, 30, .inl ((upd vh_pauses (Int32.toNatClampNeg vh_read) 0))))]) (bw_pick1 4 [2, 3, 0, 1] rfl rfl (by decide)) ?_
      refine bw_st (st1 := [.int q_41.1]) rfl ?_
      refine bw_if_eq 145 dX5_readsBow_98 (by decide) (fun c_42 => ?_) (fun c_42 => ?_)
      · have hf := bw_pos c_42 hf
        refine bw_aload_n 0 dX5_readsBow_145 rfl rfl ?_
        refine bw_dup dX5_readsBow_146 rfl ?_
        refine bw_gf bkX5 0 16 (by decide) fl_X5_141 rfl rfl dX5_readsBow_147 ?_
        refine bw_iconst 1 dX5_readsBow_150 (by decide) ?_
        refine bw_iadd dX5_readsBow_151 ?_
        refine bw_pf bkX5 0 16 ([(ah, .inr (5, [.ref ah_all, .ref ah_kept, .ref ah_history, .int vh_historyLong, .ref ah_slots, .ref ah_isSaved, .ref ah_words, .int vh_groups, .ref ah_left, .int vh_leftLong, .ref ah_seen, .ref ah_text, .int vh_textLong, .int q_41.2, .ref ah_signs, .ref ah_pauses, .int ((vh_read + 1))])), (ah_text, .inl (g.2.1, 60, .inl vh_text)), (ah_signs, .inl (g.2.1, 30, .inl ((upd ((upd vh_signs (Int32.toNatClampNeg vh_read) ((2 * ((vh_text (Int32.toNatClampNeg vh_spot)) - 49))))) (Int32.toNatClampNeg vh_read) (((((upd vh_signs (Int32.toNatClampNeg vh_read) ((2 * ((vh_text (Int32.toNatClampNeg vh_spot)) - 49))))) (Int32.toNatClampNeg vh_read)) + 1)))))), (ah_pauses, .inl (g.2.1, 30, .inl ((upd vh_pauses (Int32.toNatClampNeg vh_read) 0))))]) (by decide) fl_X5_141 rfl rfl rfl rfl rfl (Nat.le_of_ble_eq_true rfl) rfl dX5_readsBow_152 ?_
        refine bw_iconst 1 dX5_readsBow_155 (by decide) ?_
        cases Option.some.inj hf
        exact bw_ret rfl rfl (Nat.le_of_ble_eq_true rfl) (Nat.le_of_ble_eq_true rfl) dX5_readsBow_156 ⟨rfl, rfl⟩
      · have hf := bw_neg c_42 hf
        refine bw_aload_n 0 dX5_readsBow_101 rfl rfl ?_
        refine bw_bipush 48 dX5_readsBow_102 (by decide) ?_
        refine bw_bipush 57 dX5_readsBow_104 (by decide) ?_
        obtain ⟨q_43, hc_43, hf⟩ := bw_bind hf
        refine bw_callV [.int 48, .int 57] [] [(ah_signs, .inl (g.2.1, 30, .inl ((upd ((upd vh_signs (Int32.toNatClampNeg vh_read) ((2 * ((vh_text (Int32.toNatClampNeg vh_spot)) - 49))))) (Int32.toNatClampNeg vh_read) (((((upd vh_signs (Int32.toNatClampNeg vh_read) ((2 * ((vh_text (Int32.toNatClampNeg vh_spot)) - 49))))) (Int32.toNatClampNeg vh_read)) + 1)))))), (ah_pauses, .inl (g.2.1, 30, .inl ((upd vh_pauses (Int32.toNatClampNeg vh_read) 0))))] 0 5 (s_X5_isHere l g ah ah_all ah_kept ah_history ah_slots ah_isSaved ah_words ah_left ah_seen ah_text ah_signs ah_pauses vh_historyLong vh_groups vh_leftLong vh_textLong q_41.2 vh_read vh_text 48 57 _ hc_43) rfl co_X5_isHere ini_X5 ml_X5_187 im_X5_isHere se_X5_isHere ar_X5_isHere ⟨Nat.le_of_ble_eq_true rfl, Nat.le_of_ble_eq_true rfl⟩ ⟨Nat.le_of_ble_eq_true rfl, Nat.le_of_ble_eq_true rfl⟩ rfl rfl (bw_pick1 4 [0, 1, 2, 3] rfl rfl (by decide)) (Nat.le_of_ble_eq_true rfl) dX5_readsBow_106 (fun r w1 hq => ?_)
        obtain ⟨rfl, rfl⟩ := hq
        refine bw_perm (ws1 := [(ah, .inr (5, [.ref ah_all, .ref ah_kept, .ref ah_history, .int vh_historyLong, .ref ah_slots, .ref ah_isSaved, .ref ah_words, .int vh_groups, .ref ah_left, .int vh_leftLong, .ref ah_seen, .ref ah_text, .int vh_textLong, .int q_41.2, .ref ah_signs, .ref ah_pauses, .int vh_read])), (ah_text, .inl (g.2.1, 60, .inl vh_text)), (ah_signs, .inl (g.2.1, 30, .inl ((upd ((upd vh_signs (Int32.toNatClampNeg vh_read) ((2 * ((vh_text (Int32.toNatClampNeg vh_spot)) - 49))))) (Int32.toNatClampNeg vh_read) (((((upd vh_signs (Int32.toNatClampNeg vh_read) ((2 * ((vh_text (Int32.toNatClampNeg vh_spot)) - 49))))) (Int32.toNatClampNeg vh_read)) + 1)))))), (ah_pauses, .inl (g.2.1, 30, .inl ((upd vh_pauses (Int32.toNatClampNeg vh_read) 0))))]) (bw_pick1 4 [2, 3, 0, 1] rfl rfl (by decide)) ?_
        refine bw_st (st1 := [.int q_43]) rfl ?_
        refine bw_if_ne 114 dX5_readsBow_109 (by decide) (fun c_44 => ?_) (fun c_44 => ?_)
        · have hf := bw_neg c_44 hf
          refine bw_aload_n 0 dX5_readsBow_114 rfl rfl ?_
          refine bw_gf bkX5 0 15 (by decide) fl_X5_40 rfl rfl dX5_readsBow_115 ?_
          refine bw_aload_n 0 dX5_readsBow_118 rfl rfl ?_
          refine bw_gf bkX5 0 16 (by decide) fl_X5_141 rfl rfl dX5_readsBow_119 ?_
          refine bw_aload_n 0 dX5_readsBow_122 rfl rfl ?_
          refine bw_gf bkX5 0 11 (by decide) fl_X5_34 rfl rfl dX5_readsBow_123 ?_
          refine bw_aload_n 0 dX5_readsBow_126 rfl rfl ?_
          refine bw_gf bkX5 0 13 (by decide) fl_X5_184 rfl rfl dX5_readsBow_127 ?_
          obtain ⟨h_45, hf⟩ := bw_chk hf
          refine bw_iald 1 rfl h_45 dX5_readsBow_130 ?_
          refine bw_bipush 48 dX5_readsBow_131 (by decide) ?_
          refine bw_isub dX5_readsBow_133 ?_
          obtain ⟨h_46, hf⟩ := bw_chk hf
          refine bw_iast 3 ([(ah, .inr (5, [.ref ah_all, .ref ah_kept, .ref ah_history, .int vh_historyLong, .ref ah_slots, .ref ah_isSaved, .ref ah_words, .int vh_groups, .ref ah_left, .int vh_leftLong, .ref ah_seen, .ref ah_text, .int vh_textLong, .int q_41.2, .ref ah_signs, .ref ah_pauses, .int vh_read])), (ah_text, .inl (g.2.1, 60, .inl vh_text)), (ah_signs, .inl (g.2.1, 30, .inl ((upd ((upd vh_signs (Int32.toNatClampNeg vh_read) ((2 * ((vh_text (Int32.toNatClampNeg vh_spot)) - 49))))) (Int32.toNatClampNeg vh_read) (((((upd vh_signs (Int32.toNatClampNeg vh_read) ((2 * ((vh_text (Int32.toNatClampNeg vh_spot)) - 49))))) (Int32.toNatClampNeg vh_read)) + 1)))))), (ah_pauses, .inl (g.2.1, 30, .inl ((upd ((upd vh_pauses (Int32.toNatClampNeg vh_read) 0)) (Int32.toNatClampNeg vh_read) (((vh_text (Int32.toNatClampNeg q_41.2)) - 48))))))]) rfl h_46 rfl dX5_readsBow_134 ?_
          refine bw_aload_n 0 dX5_readsBow_135 rfl rfl ?_
          refine bw_dup dX5_readsBow_136 rfl ?_
          refine bw_gf bkX5 0 13 (by decide) fl_X5_184 rfl rfl dX5_readsBow_137 ?_
          refine bw_iconst 1 dX5_readsBow_140 (by decide) ?_
          refine bw_iadd dX5_readsBow_141 ?_
          refine bw_pf bkX5 0 13 ([(ah, .inr (5, [.ref ah_all, .ref ah_kept, .ref ah_history, .int vh_historyLong, .ref ah_slots, .ref ah_isSaved, .ref ah_words, .int vh_groups, .ref ah_left, .int vh_leftLong, .ref ah_seen, .ref ah_text, .int vh_textLong, .int ((q_41.2 + 1)), .ref ah_signs, .ref ah_pauses, .int vh_read])), (ah_text, .inl (g.2.1, 60, .inl vh_text)), (ah_signs, .inl (g.2.1, 30, .inl ((upd ((upd vh_signs (Int32.toNatClampNeg vh_read) ((2 * ((vh_text (Int32.toNatClampNeg vh_spot)) - 49))))) (Int32.toNatClampNeg vh_read) (((((upd vh_signs (Int32.toNatClampNeg vh_read) ((2 * ((vh_text (Int32.toNatClampNeg vh_spot)) - 49))))) (Int32.toNatClampNeg vh_read)) + 1)))))), (ah_pauses, .inl (g.2.1, 30, .inl ((upd ((upd vh_pauses (Int32.toNatClampNeg vh_read) 0)) (Int32.toNatClampNeg vh_read) (((vh_text (Int32.toNatClampNeg q_41.2)) - 48))))))]) (by decide) fl_X5_184 rfl rfl rfl rfl rfl (Nat.le_of_ble_eq_true rfl) rfl dX5_readsBow_142 ?_
          refine bw_aload_n 0 dX5_readsBow_145 rfl rfl ?_
          refine bw_dup dX5_readsBow_146 rfl ?_
          refine bw_gf bkX5 0 16 (by decide) fl_X5_141 rfl rfl dX5_readsBow_147 ?_
          refine bw_iconst 1 dX5_readsBow_150 (by decide) ?_
          refine bw_iadd dX5_readsBow_151 ?_
          refine bw_pf bkX5 0 16 ([(ah, .inr (5, [.ref ah_all, .ref ah_kept, .ref ah_history, .int vh_historyLong, .ref ah_slots, .ref ah_isSaved, .ref ah_words, .int vh_groups, .ref ah_left, .int vh_leftLong, .ref ah_seen, .ref ah_text, .int vh_textLong, .int ((q_41.2 + 1)), .ref ah_signs, .ref ah_pauses, .int ((vh_read + 1))])), (ah_text, .inl (g.2.1, 60, .inl vh_text)), (ah_signs, .inl (g.2.1, 30, .inl ((upd ((upd vh_signs (Int32.toNatClampNeg vh_read) ((2 * ((vh_text (Int32.toNatClampNeg vh_spot)) - 49))))) (Int32.toNatClampNeg vh_read) (((((upd vh_signs (Int32.toNatClampNeg vh_read) ((2 * ((vh_text (Int32.toNatClampNeg vh_spot)) - 49))))) (Int32.toNatClampNeg vh_read)) + 1)))))), (ah_pauses, .inl (g.2.1, 30, .inl ((upd ((upd vh_pauses (Int32.toNatClampNeg vh_read) 0)) (Int32.toNatClampNeg vh_read) (((vh_text (Int32.toNatClampNeg q_41.2)) - 48))))))]) (by decide) fl_X5_141 rfl rfl rfl rfl rfl (Nat.le_of_ble_eq_true rfl) rfl dX5_readsBow_152 ?_
          refine bw_iconst 1 dX5_readsBow_155 (by decide) ?_
          cases Option.some.inj hf
          exact bw_ret rfl rfl (Nat.le_of_ble_eq_true rfl) (Nat.le_of_ble_eq_true rfl) dX5_readsBow_156 ⟨rfl, rfl⟩
        · have hf := bw_pos c_44 hf
          refine bw_iconst 0 dX5_readsBow_112 (by decide) ?_
          cases Option.some.inj hf
          exact bw_ret rfl rfl (Nat.le_of_ble_eq_true rfl) (Nat.le_of_ble_eq_true rfl) dX5_readsBow_113 ⟨rfl, rfl⟩
  · have hf := bw_pos c_25 hf
    refine bw_iconst 0 dX5_readsBow_11 (by decide) ?_
    cases Option.some.inj hf
    exact bw_ret rfl rfl (Nat.le_of_ble_eq_true rfl) (Nat.le_of_ble_eq_true rfl) dX5_readsBow_12 ⟨rfl, rfl⟩
def f_X5_fault_L12 : Nat → (Int32) → (Int32) → (Int32) → (Nat → Int32) → (Nat → Int32) → (Nat → Int32) → (Int32) → Option (Int32 × (Int32) × (Int32) × (Nat → Int32) × (Nat → Int32))
  | 0, _, _, _, _, _, _, _ => none
  | fu + 1, vh_textLong, vh_spot, vh_read, vh_text, vh_signs, vh_pauses, x1 => (if x1 = 0 then some ((-1000006), vh_spot, vh_read, vh_signs, vh_pauses) else ((f_X5_readsBow vh_textLong vh_spot vh_read vh_text vh_signs vh_pauses).bind fun q_6 => (if q_6.1 = 0 then some (q_6.2.1, q_6.2.1, q_6.2.2.1, q_6.2.2.2.1, q_6.2.2.2.2) else (if vh_textLong ≤ q_6.2.1 then (f_X5_fault_L12 fu vh_textLong q_6.2.1 q_6.2.2.1 vh_text q_6.2.2.2.1 q_6.2.2.2.2 0) else (f_X5_fault_L12 fu vh_textLong q_6.2.1 q_6.2.2.1 vh_text q_6.2.2.2.1 q_6.2.2.2.2 1)))))
set_option maxHeartbeats 4000000 in
set_option maxRecDepth 100000 in
theorem s_X5_fault_L12 (l : Launch) (g : bwG) (ah ah_all ah_kept ah_history ah_slots ah_isSaved ah_words ah_left ah_seen ah_text ah_signs ah_pauses : Nat) (fu : Nat) : ∀ (vh_historyLong : Int32) (vh_groups : Int32) (vh_leftLong : Int32) (vh_textLong : Int32) (vh_spot : Int32) (vh_read : Int32) (vh_text : Nat → Int32) (vh_signs : Nat → Int32) (vh_pauses : Nat → Int32) (x1 : Int32) (res : Int32 × (Int32) × (Int32) × (Nat → Int32) × (Nat → Int32)), f_X5_fault_L12 fu vh_textLong vh_spot vh_read vh_text vh_signs vh_pauses x1 = some res → bwR l g cX5_fault 2 RX5 "fault" (some .int) ({ frames := 4, cells := 0, slots := 0, locals := 89 } : Room) bwT (bwZ g (fun r w => r = some (.int res.1) ∧ w = [(ah, .inr (5, [.ref ah_all, .ref ah_kept, .ref ah_history, .int vh_historyLong, .ref ah_slots, .ref ah_isSaved, .ref ah_words, .int vh_groups, .ref ah_left, .int vh_leftLong, .ref ah_seen, .ref ah_text, .int vh_textLong, .int res.2.1, .ref ah_signs, .ref ah_pauses, .int res.2.2.1])), (ah_text, .inl (g.2.1, 60, .inl vh_text)), (ah_signs, .inl (g.2.1, 30, .inl res.2.2.2.1)), (ah_pauses, .inl (g.2.1, 30, .inl res.2.2.2.2))]) 0 0) 12 [(0, .ref ah), (1, .int x1)] [] ([(ah, .inr (5, [.ref ah_all, .ref ah_kept, .ref ah_history, .int vh_historyLong, .ref ah_slots, .ref ah_isSaved, .ref ah_words, .int vh_groups, .ref ah_left, .int vh_leftLong, .ref ah_seen, .ref ah_text, .int vh_textLong, .int vh_spot, .ref ah_signs, .ref ah_pauses, .int vh_read])), (ah_text, .inl (g.2.1, 60, .inl vh_text)), (ah_signs, .inl (g.2.1, 30, .inl vh_signs)), (ah_pauses, .inl (g.2.1, 30, .inl vh_pauses))]) 0 0 := by
  induction fu with
  | zero => intro vh_historyLong vh_groups vh_leftLong vh_textLong vh_spot vh_read vh_text vh_signs vh_pauses x1 res hf; exact absurd hf (by intro h; cases h)
  | succ fu ih =>
    intro vh_historyLong vh_groups vh_leftLong vh_textLong vh_spot vh_read vh_text vh_signs vh_pauses x1 res hf
    rw [f_X5_fault_L12] at hf
    refine bw_iload_n 1 dX5_fault_12 rfl rfl ?_
    refine bw_if_eq 48 dX5_fault_13 (by decide) (fun c_5 => ?_) (fun c_5 => ?_)
    · have hf := bw_pos c_5 hf
      refine bw_ldc ct_X5_70 dX5_fault_48 ?_
      cases Option.some.inj hf
      exact bw_ret rfl rfl (Nat.le_of_ble_eq_true rfl) (Nat.le_of_ble_eq_true rfl) dX5_fault_50 ⟨rfl, rfl⟩
    · have hf := bw_neg c_5 hf
      refine bw_aload_n 0 dX5_fault_16 rfl rfl ?_
      obtain ⟨q_6, hc_6, hf⟩ := bw_bind hf
      refine bw_callV [] [] [] 0 5 (s_X5_readsBow l g ah ah_all ah_kept ah_history ah_slots ah_isSaved ah_words ah_left ah_seen ah_text ah_signs ah_pauses vh_historyLong vh_groups vh_leftLong vh_textLong vh_spot vh_read vh_text vh_signs vh_pauses  _ hc_6) rfl co_X5_readsBow ini_X5 ml_X5_193 im_X5_readsBow se_X5_readsBow ar_X5_readsBow ⟨Nat.le_of_ble_eq_true rfl, Nat.le_of_ble_eq_true rfl⟩ ⟨Nat.le_of_ble_eq_true rfl, Nat.le_of_ble_eq_true rfl⟩ rfl rfl (bw_pick1 4 [0, 1, 2, 3] rfl rfl (by decide)) (Nat.le_of_ble_eq_true rfl) dX5_fault_17 (fun r w1 hq => ?_)
      obtain ⟨rfl, rfl⟩ := hq
      refine bw_perm (ws1 := [(ah, .inr (5, [.ref ah_all, .ref ah_kept, .ref ah_history, .int vh_historyLong, .ref ah_slots, .ref ah_isSaved, .ref ah_words, .int vh_groups, .ref ah_left, .int vh_leftLong, .ref ah_seen, .ref ah_text, .int vh_textLong, .int q_6.2.1, .ref ah_signs, .ref ah_pauses, .int q_6.2.2.1])), (ah_text, .inl (g.2.1, 60, .inl vh_text)), (ah_signs, .inl (g.2.1, 30, .inl q_6.2.2.2.1)), (ah_pauses, .inl (g.2.1, 30, .inl q_6.2.2.2.2))]) (bw_pick1 4 [0, 1, 2, 3] rfl rfl (by decide)) ?_
      refine bw_st (st1 := [.int q_6.1]) rfl ?_
      refine bw_if_ne 28 dX5_fault_20 (by decide) (fun c_7 => ?_) (fun c_7 => ?_)
      · have hf := bw_neg c_7 hf
        refine bw_aload_n 0 dX5_fault_28 rfl rfl ?_
        refine bw_gf bkX5 0 13 (by decide) fl_X5_184 rfl rfl dX5_fault_29 ?_
        refine bw_aload_n 0 dX5_fault_32 rfl rfl ?_
        refine bw_gf bkX5 0 12 (by decide) fl_X5_144 rfl rfl dX5_fault_33 ?_
        refine bw_icmp_ge 43 dX5_fault_36 (by decide) (fun c_8 => ?_) (fun c_8 => ?_)
        · have hf := bw_pos c_8 hf
          refine bw_iconst 0 dX5_fault_43 (by decide) ?_
          refine bw_istore_n [(1, .int 0), (0, .ref ah)] dX5_fault_44 rfl (by decide) rfl ?_
          refine bw_goto 12 dX5_fault_45 (by decide) ?_
          refine bw_lv [1, 0] rfl ?_
          exact ih vh_historyLong vh_groups vh_leftLong vh_textLong q_6.2.1 q_6.2.2.1 vh_text q_6.2.2.2.1 q_6.2.2.2.2 0 _ hf
        · have hf := bw_neg c_8 hf
          refine bw_iconst 1 dX5_fault_39 (by decide) ?_
          refine bw_goto 44 dX5_fault_40 (by decide) ?_
          refine bw_istore_n [(1, .int 1), (0, .ref ah)] dX5_fault_44 rfl (by decide) rfl ?_
          refine bw_goto 12 dX5_fault_45 (by decide) ?_
          refine bw_lv [1, 0] rfl ?_
          exact ih vh_historyLong vh_groups vh_leftLong vh_textLong q_6.2.1 q_6.2.2.1 vh_text q_6.2.2.2.1 q_6.2.2.2.2 1 _ hf
      · have hf := bw_pos c_7 hf
        refine bw_aload_n 0 dX5_fault_23 rfl rfl ?_
        refine bw_gf bkX5 0 13 (by decide) fl_X5_184 rfl rfl dX5_fault_24 ?_
        cases Option.some.inj hf
        exact bw_ret rfl rfl (Nat.le_of_ble_eq_true rfl) (Nat.le_of_ble_eq_true rfl) dX5_fault_27 ⟨rfl, rfl⟩
theorem ar_X5_fault : yX5_fault.cls ≠ "java/lang/invoke/MethodHandle" ∧ yX5_fault.cls ≠ "java/lang/invoke/VarHandle" ∧ (parseMethodDescriptor yX5_fault.desc).map (fun d => d.parameters.length) = some 0 := ⟨by decide, by decide, by decide +kernel⟩
def f_X5_fault (vh_textLong : Int32) (vh_spot : Int32) (vh_read : Int32) (vh_text : Nat → Int32) (vh_signs : Nat → Int32) (vh_pauses : Nat → Int32)  : Option (Int32 × (Int32) × (Int32) × (Nat → Int32) × (Nat → Int32)) := (f_X5_fault_L12 bw_F vh_textLong 0 0 vh_text vh_signs vh_pauses 1)
set_option maxHeartbeats 4000000 in
set_option maxRecDepth 100000 in
theorem s_X5_fault (l : Launch) (g : bwG) (ah ah_all ah_kept ah_history ah_slots ah_isSaved ah_words ah_left ah_seen ah_text ah_signs ah_pauses : Nat) (vh_historyLong : Int32) (vh_groups : Int32) (vh_leftLong : Int32) (vh_textLong : Int32) (vh_spot : Int32) (vh_read : Int32) (vh_text : Nat → Int32) (vh_signs : Nat → Int32) (vh_pauses : Nat → Int32)  (res : Int32 × (Int32) × (Int32) × (Nat → Int32) × (Nat → Int32)) (hf : f_X5_fault vh_textLong vh_spot vh_read vh_text vh_signs vh_pauses  = some res) : bwS l g yX5_fault cX5_fault 2 (some .int) ({ frames := 4, cells := 0, slots := 0, locals := 89 } : Room) [.ref ah] ([(ah, .inr (5, [.ref ah_all, .ref ah_kept, .ref ah_history, .int vh_historyLong, .ref ah_slots, .ref ah_isSaved, .ref ah_words, .int vh_groups, .ref ah_left, .int vh_leftLong, .ref ah_seen, .ref ah_text, .int vh_textLong, .int vh_spot, .ref ah_signs, .ref ah_pauses, .int vh_read])), (ah_text, .inl (g.2.1, 60, .inl vh_text)), (ah_signs, .inl (g.2.1, 30, .inl vh_signs)), (ah_pauses, .inl (g.2.1, 30, .inl vh_pauses))]) (fun r w => r = some (.int res.1) ∧ w = [(ah, .inr (5, [.ref ah_all, .ref ah_kept, .ref ah_history, .int vh_historyLong, .ref ah_slots, .ref ah_isSaved, .ref ah_words, .int vh_groups, .ref ah_left, .int vh_leftLong, .ref ah_seen, .ref ah_text, .int vh_textLong, .int res.2.1, .ref ah_signs, .ref ah_pauses, .int res.2.2.1])), (ah_text, .inl (g.2.1, 60, .inl vh_text)), (ah_signs, .inl (g.2.1, 30, .inl res.2.2.2.1)), (ah_pauses, .inl (g.2.1, 30, .inl res.2.2.2.2))]) := by
  refine bwS_of (by decide) (Nat.le_of_ble_eq_true rfl) ?_
  unfold f_X5_fault at hf
  show bwR l g cX5_fault 2 RX5 "fault" (some .int) ({ frames := 4, cells := 0, slots := 0, locals := 89 } : Room) bwT (bwZ g (fun r w => r = some (.int res.1) ∧ w = [(ah, .inr (5, [.ref ah_all, .ref ah_kept, .ref ah_history, .int vh_historyLong, .ref ah_slots, .ref ah_isSaved, .ref ah_words, .int vh_groups, .ref ah_left, .int vh_leftLong, .ref ah_seen, .ref ah_text, .int vh_textLong, .int res.2.1, .ref ah_signs, .ref ah_pauses, .int res.2.2.1])), (ah_text, .inl (g.2.1, 60, .inl vh_text)), (ah_signs, .inl (g.2.1, 30, .inl res.2.2.2.1)), (ah_pauses, .inl (g.2.1, 30, .inl res.2.2.2.2))]) 0 0) 0 [(0, .ref ah)] [] ([(ah, .inr (5, [.ref ah_all, .ref ah_kept, .ref ah_history, .int vh_historyLong, .ref ah_slots, .ref ah_isSaved, .ref ah_words, .int vh_groups, .ref ah_left, .int vh_leftLong, .ref ah_seen, .ref ah_text, .int vh_textLong, .int vh_spot, .ref ah_signs, .ref ah_pauses, .int vh_read])), (ah_text, .inl (g.2.1, 60, .inl vh_text)), (ah_signs, .inl (g.2.1, 30, .inl vh_signs)), (ah_pauses, .inl (g.2.1, 30, .inl vh_pauses))]) 0 0
  refine bw_aload_n 0 dX5_fault_0 rfl rfl ?_
  refine bw_iconst 0 dX5_fault_1 (by decide) ?_
  refine bw_pf bkX5 0 13 ([(ah, .inr (5, [.ref ah_all, .ref ah_kept, .ref ah_history, .int vh_historyLong, .ref ah_slots, .ref ah_isSaved, .ref ah_words, .int vh_groups, .ref ah_left, .int vh_leftLong, .ref ah_seen, .ref ah_text, .int vh_textLong, .int 0, .ref ah_signs, .ref ah_pauses, .int vh_read])), (ah_text, .inl (g.2.1, 60, .inl vh_text)), (ah_signs, .inl (g.2.1, 30, .inl vh_signs)), (ah_pauses, .inl (g.2.1, 30, .inl vh_pauses))]) (by decide) fl_X5_184 rfl rfl rfl rfl rfl (Nat.le_of_ble_eq_true rfl) rfl dX5_fault_2 ?_
  refine bw_aload_n 0 dX5_fault_5 rfl rfl ?_
  refine bw_iconst 0 dX5_fault_6 (by decide) ?_
  refine bw_pf bkX5 0 16 ([(ah, .inr (5, [.ref ah_all, .ref ah_kept, .ref ah_history, .int vh_historyLong, .ref ah_slots, .ref ah_isSaved, .ref ah_words, .int vh_groups, .ref ah_left, .int vh_leftLong, .ref ah_seen, .ref ah_text, .int vh_textLong, .int 0, .ref ah_signs, .ref ah_pauses, .int 0])), (ah_text, .inl (g.2.1, 60, .inl vh_text)), (ah_signs, .inl (g.2.1, 30, .inl vh_signs)), (ah_pauses, .inl (g.2.1, 30, .inl vh_pauses))]) (by decide) fl_X5_141 rfl rfl rfl rfl rfl (Nat.le_of_ble_eq_true rfl) rfl dX5_fault_7 ?_
  refine bw_iconst 1 dX5_fault_10 (by decide) ?_
  refine bw_istore_n [(1, .int 1), (0, .ref ah)] dX5_fault_11 rfl (by decide) rfl ?_
  refine bw_lv [1, 0] rfl ?_
  exact s_X5_fault_L12 l g ah ah_all ah_kept ah_history ah_slots ah_isSaved ah_words ah_left ah_seen ah_text ah_signs ah_pauses bw_F vh_historyLong vh_groups vh_leftLong vh_textLong 0 0 vh_text vh_signs vh_pauses 1 _ hf
def f_X5_read_L37 : Nat → (Int32) → (Int32) → (Int32) → (Int32) → (Nat → Int32) → (Nat → Int32) → (Nat → Int32) → (Nat → Int32) → (Nat → Int32) → (Int32) → Option (Int32 × (Int32) × (Int32) × (Int32) × (Int32) × (Nat → Int32) × (Nat → Int32) × (Nat → Int32) × (Nat → Int32))
  | 0, _, _, _, _, _, _, _, _, _, _ => none
  | fu + 1, vh_historyLong, vh_textLong, vh_spot, vh_read, vh_all, vh_history, vh_text, vh_signs, vh_pauses, x1 => (if vh_read ≤ x1 then (if bw_in 3 120 then some ((vh_all (Int32.toNatClampNeg 3)), vh_historyLong, 0, vh_spot, vh_read, vh_all, vh_history, vh_signs, vh_pauses) else none) else (if bw_in x1 30 then (if bw_in x1 30 then ((f_X5_adds vh_all ((vh_signs (Int32.toNatClampNeg x1))) ((vh_pauses (Int32.toNatClampNeg x1)))).bind fun q_15 => (f_X5_read_L37 fu vh_historyLong vh_textLong vh_spot vh_read q_15 vh_history vh_text vh_signs vh_pauses ((x1 + 1)))) else none) else none))
set_option maxHeartbeats 4000000 in
set_option maxRecDepth 100000 in
theorem s_X5_read_L37 (l : Launch) (g : bwG) (ah ah_all ah_kept ah_history ah_slots ah_isSaved ah_words ah_left ah_seen ah_text ah_signs ah_pauses : Nat) (fu : Nat) : ∀ (vh_historyLong : Int32) (vh_groups : Int32) (vh_leftLong : Int32) (vh_textLong : Int32) (vh_spot : Int32) (vh_read : Int32) (vh_all : Nat → Int32) (vh_history : Nat → Int32) (vh_text : Nat → Int32) (vh_signs : Nat → Int32) (vh_pauses : Nat → Int32) (x1 : Int32) (res : Int32 × (Int32) × (Int32) × (Int32) × (Int32) × (Nat → Int32) × (Nat → Int32) × (Nat → Int32) × (Nat → Int32)), f_X5_read_L37 fu vh_historyLong vh_textLong vh_spot vh_read vh_all vh_history vh_text vh_signs vh_pauses x1 = some res → bwR l g cX5_read 2 RX5 "read" (some .int) ({ frames := 5, cells := 0, slots := 0, locals := 110 } : Room) bwT (bwZ g (fun r w => r = some (.int res.1) ∧ w = [(ah, .inr (5, [.ref ah_all, .ref ah_kept, .ref ah_history, .int res.2.1, .ref ah_slots, .ref ah_isSaved, .ref ah_words, .int vh_groups, .ref ah_left, .int vh_leftLong, .ref ah_seen, .ref ah_text, .int res.2.2.1, .int res.2.2.2.1, .ref ah_signs, .ref ah_pauses, .int res.2.2.2.2.1])), (ah_all, .inl (g.2.1, 120, .inl res.2.2.2.2.2.1)), (ah_history, .inl (g.2.1, 720, .inl res.2.2.2.2.2.2.1)), (ah_text, .inl (g.2.1, 60, .inl vh_text)), (ah_signs, .inl (g.2.1, 30, .inl res.2.2.2.2.2.2.2.1)), (ah_pauses, .inl (g.2.1, 30, .inl res.2.2.2.2.2.2.2.2))]) 0 0) 37 [(0, .ref ah), (1, .int x1)] [] ([(ah, .inr (5, [.ref ah_all, .ref ah_kept, .ref ah_history, .int vh_historyLong, .ref ah_slots, .ref ah_isSaved, .ref ah_words, .int vh_groups, .ref ah_left, .int vh_leftLong, .ref ah_seen, .ref ah_text, .int vh_textLong, .int vh_spot, .ref ah_signs, .ref ah_pauses, .int vh_read])), (ah_all, .inl (g.2.1, 120, .inl vh_all)), (ah_history, .inl (g.2.1, 720, .inl vh_history)), (ah_text, .inl (g.2.1, 60, .inl vh_text)), (ah_signs, .inl (g.2.1, 30, .inl vh_signs)), (ah_pauses, .inl (g.2.1, 30, .inl vh_pauses))]) 0 0 := by
  induction fu with
  | zero => intro vh_historyLong vh_groups vh_leftLong vh_textLong vh_spot vh_read vh_all vh_history vh_text vh_signs vh_pauses x1 res hf; exact absurd hf (by intro h; cases h)
  | succ fu ih =>
    intro vh_historyLong vh_groups vh_leftLong vh_textLong vh_spot vh_read vh_all vh_history vh_text vh_signs vh_pauses x1 res hf
    rw [f_X5_read_L37] at hf
    refine bw_iload_n 1 dX5_read_37 rfl rfl ?_
    refine bw_aload_n 0 dX5_read_38 rfl rfl ?_
    refine bw_gf bkX5 0 16 (by decide) fl_X5_141 rfl rfl dX5_read_39 ?_
    refine bw_icmp_ge 67 dX5_read_42 (by decide) (fun c_11 => ?_) (fun c_11 => ?_)
    · have hf := bw_pos c_11 hf
      refine bw_aload_n 0 dX5_read_67 rfl rfl ?_
      refine bw_iconst 0 dX5_read_68 (by decide) ?_
      refine bw_pf bkX5 0 12 ([(ah, .inr (5, [.ref ah_all, .ref ah_kept, .ref ah_history, .int vh_historyLong, .ref ah_slots, .ref ah_isSaved, .ref ah_words, .int vh_groups, .ref ah_left, .int vh_leftLong, .ref ah_seen, .ref ah_text, .int 0, .int vh_spot, .ref ah_signs, .ref ah_pauses, .int vh_read])), (ah_all, .inl (g.2.1, 120, .inl vh_all)), (ah_history, .inl (g.2.1, 720, .inl vh_history)), (ah_text, .inl (g.2.1, 60, .inl vh_text)), (ah_signs, .inl (g.2.1, 30, .inl vh_signs)), (ah_pauses, .inl (g.2.1, 30, .inl vh_pauses))]) (by decide) fl_X5_144 rfl rfl rfl rfl rfl (Nat.le_of_ble_eq_true rfl) rfl dX5_read_69 ?_
      refine bw_aload_n 0 dX5_read_72 rfl rfl ?_
      refine bw_gf bkX5 0 0 (by decide) fl_X5_7 rfl rfl dX5_read_73 ?_
      refine bw_iconst 3 dX5_read_76 (by decide) ?_
      obtain ⟨h_12, hf⟩ := bw_chk hf
      refine bw_iald 1 rfl h_12 dX5_read_77 ?_
      cases Option.some.inj hf
      exact bw_ret rfl rfl (Nat.le_of_ble_eq_true rfl) (Nat.le_of_ble_eq_true rfl) dX5_read_78 ⟨rfl, rfl⟩
    · have hf := bw_neg c_11 hf
      refine bw_aload_n 0 dX5_read_45 rfl rfl ?_
      refine bw_aload_n 0 dX5_read_46 rfl rfl ?_
      refine bw_gf bkX5 0 14 (by decide) fl_X5_37 rfl rfl dX5_read_47 ?_
      refine bw_iload_n 1 dX5_read_50 rfl rfl ?_
      obtain ⟨h_13, hf⟩ := bw_chk hf
      refine bw_iald 4 rfl h_13 dX5_read_51 ?_
      refine bw_aload_n 0 dX5_read_52 rfl rfl ?_
      refine bw_gf bkX5 0 15 (by decide) fl_X5_40 rfl rfl dX5_read_53 ?_
      refine bw_iload_n 1 dX5_read_56 rfl rfl ?_
      obtain ⟨h_14, hf⟩ := bw_chk hf
      refine bw_iald 5 rfl h_14 dX5_read_57 ?_
      obtain ⟨q_15, hc_15, hf⟩ := bw_bind hf
      refine bw_callV [.int ((vh_signs (Int32.toNatClampNeg x1))), .int ((vh_pauses (Int32.toNatClampNeg x1)))] [] [(ah_history, .inl (g.2.1, 720, .inl vh_history)), (ah_text, .inl (g.2.1, 60, .inl vh_text)), (ah_signs, .inl (g.2.1, 30, .inl vh_signs)), (ah_pauses, .inl (g.2.1, 30, .inl vh_pauses))] 0 5 (s_X5_adds l g ah ah_all ah_kept ah_history ah_slots ah_isSaved ah_words ah_left ah_seen ah_text ah_signs ah_pauses vh_historyLong vh_groups vh_leftLong vh_textLong vh_spot vh_read vh_all ((vh_signs (Int32.toNatClampNeg x1))) ((vh_pauses (Int32.toNatClampNeg x1))) _ hc_15) rfl co_X5_adds ini_X5 ml_X5_132 im_X5_adds se_X5_adds ar_X5_adds ⟨Nat.le_of_ble_eq_true rfl, Nat.le_of_ble_eq_true rfl⟩ ⟨Nat.le_of_ble_eq_true rfl, Nat.le_of_ble_eq_true rfl⟩ rfl rfl (bw_pick1 6 [0, 1, 2, 3, 4, 5] rfl rfl (by decide)) (Nat.le_of_ble_eq_true rfl) dX5_read_58 (fun r w1 hq => ?_)
      obtain ⟨rfl, rfl⟩ := hq
      refine bw_perm (ws1 := [(ah, .inr (5, [.ref ah_all, .ref ah_kept, .ref ah_history, .int vh_historyLong, .ref ah_slots, .ref ah_isSaved, .ref ah_words, .int vh_groups, .ref ah_left, .int vh_leftLong, .ref ah_seen, .ref ah_text, .int vh_textLong, .int vh_spot, .ref ah_signs, .ref ah_pauses, .int vh_read])), (ah_all, .inl (g.2.1, 120, .inl q_15)), (ah_history, .inl (g.2.1, 720, .inl vh_history)), (ah_text, .inl (g.2.1, 60, .inl vh_text)), (ah_signs, .inl (g.2.1, 30, .inl vh_signs)), (ah_pauses, .inl (g.2.1, 30, .inl vh_pauses))]) (bw_pick1 6 [4, 5, 0, 1, 2, 3] rfl rfl (by decide)) ?_
      refine bw_st (st1 := []) rfl ?_
      refine bw_iinc 1 (x1 + 1) [(1, .int ((x1 + 1))), (0, .ref ah)] dX5_read_61 rfl rfl (by decide) rfl ?_
      refine bw_goto 37 dX5_read_64 (by decide) ?_
      refine bw_lv [1, 0] rfl ?_
      exact ih vh_historyLong vh_groups vh_leftLong vh_textLong vh_spot vh_read q_15 vh_history vh_text vh_signs vh_pauses ((x1 + 1)) _ hf
theorem ar_X5_read : yX5_read.cls ≠ "java/lang/invoke/MethodHandle" ∧ yX5_read.cls ≠ "java/lang/invoke/VarHandle" ∧ (parseMethodDescriptor yX5_read.desc).map (fun d => d.parameters.length) = some 0 := ⟨by decide, by decide, by decide +kernel⟩
def f_X5_read (vh_historyLong : Int32) (vh_textLong : Int32) (vh_spot : Int32) (vh_read : Int32) (vh_all : Nat → Int32) (vh_history : Nat → Int32) (vh_text : Nat → Int32) (vh_signs : Nat → Int32) (vh_pauses : Nat → Int32)  : Option (Int32 × (Int32) × (Int32) × (Int32) × (Int32) × (Nat → Int32) × (Nat → Int32) × (Nat → Int32) × (Nat → Int32)) := ((f_X5_fault vh_textLong vh_spot vh_read vh_text vh_signs vh_pauses).bind fun q_16 => (if q_16.1 = (-1000006) then (if bw_in 3 120 then (if ((vh_all (Int32.toNatClampNeg 3)) + q_16.2.2.1) ≤ 24 then ((f_X5_changes vh_historyLong vh_all vh_history).bind fun q_20 => (f_X5_read_L37 bw_F q_20.1 vh_textLong q_16.2.1 q_16.2.2.1 vh_all q_20.2 vh_text q_16.2.2.2.1 q_16.2.2.2.2 0)) else some ((-1000004), vh_historyLong, vh_textLong, q_16.2.1, q_16.2.2.1, vh_all, vh_history, q_16.2.2.2.1, q_16.2.2.2.2)) else none) else some ((-1000003), vh_historyLong, vh_textLong, q_16.2.1, q_16.2.2.1, vh_all, vh_history, q_16.2.2.2.1, q_16.2.2.2.2)))
set_option maxHeartbeats 4000000 in
set_option maxRecDepth 100000 in
theorem s_X5_read (l : Launch) (g : bwG) (ah ah_all ah_kept ah_history ah_slots ah_isSaved ah_words ah_left ah_seen ah_text ah_signs ah_pauses : Nat) (vh_historyLong : Int32) (vh_groups : Int32) (vh_leftLong : Int32) (vh_textLong : Int32) (vh_spot : Int32) (vh_read : Int32) (vh_all : Nat → Int32) (vh_history : Nat → Int32) (vh_text : Nat → Int32) (vh_signs : Nat → Int32) (vh_pauses : Nat → Int32)  (res : Int32 × (Int32) × (Int32) × (Int32) × (Int32) × (Nat → Int32) × (Nat → Int32) × (Nat → Int32) × (Nat → Int32)) (hf : f_X5_read vh_historyLong vh_textLong vh_spot vh_read vh_all vh_history vh_text vh_signs vh_pauses  = some res) : bwS l g yX5_read cX5_read 2 (some .int) ({ frames := 5, cells := 0, slots := 0, locals := 110 } : Room) [.ref ah] ([(ah, .inr (5, [.ref ah_all, .ref ah_kept, .ref ah_history, .int vh_historyLong, .ref ah_slots, .ref ah_isSaved, .ref ah_words, .int vh_groups, .ref ah_left, .int vh_leftLong, .ref ah_seen, .ref ah_text, .int vh_textLong, .int vh_spot, .ref ah_signs, .ref ah_pauses, .int vh_read])), (ah_all, .inl (g.2.1, 120, .inl vh_all)), (ah_history, .inl (g.2.1, 720, .inl vh_history)), (ah_text, .inl (g.2.1, 60, .inl vh_text)), (ah_signs, .inl (g.2.1, 30, .inl vh_signs)), (ah_pauses, .inl (g.2.1, 30, .inl vh_pauses))]) (fun r w => r = some (.int res.1) ∧ w = [(ah, .inr (5, [.ref ah_all, .ref ah_kept, .ref ah_history, .int res.2.1, .ref ah_slots, .ref ah_isSaved, .ref ah_words, .int vh_groups, .ref ah_left, .int vh_leftLong, .ref ah_seen, .ref ah_text, .int res.2.2.1, .int res.2.2.2.1, .ref ah_signs, .ref ah_pauses, .int res.2.2.2.2.1])), (ah_all, .inl (g.2.1, 120, .inl res.2.2.2.2.2.1)), (ah_history, .inl (g.2.1, 720, .inl res.2.2.2.2.2.2.1)), (ah_text, .inl (g.2.1, 60, .inl vh_text)), (ah_signs, .inl (g.2.1, 30, .inl res.2.2.2.2.2.2.2.1)), (ah_pauses, .inl (g.2.1, 30, .inl res.2.2.2.2.2.2.2.2))]) := by
  refine bwS_of (by decide) (Nat.le_of_ble_eq_true rfl) ?_
  unfold f_X5_read at hf
  show bwR l g cX5_read 2 RX5 "read" (some .int) ({ frames := 5, cells := 0, slots := 0, locals := 110 } : Room) bwT (bwZ g (fun r w => r = some (.int res.1) ∧ w = [(ah, .inr (5, [.ref ah_all, .ref ah_kept, .ref ah_history, .int res.2.1, .ref ah_slots, .ref ah_isSaved, .ref ah_words, .int vh_groups, .ref ah_left, .int vh_leftLong, .ref ah_seen, .ref ah_text, .int res.2.2.1, .int res.2.2.2.1, .ref ah_signs, .ref ah_pauses, .int res.2.2.2.2.1])), (ah_all, .inl (g.2.1, 120, .inl res.2.2.2.2.2.1)), (ah_history, .inl (g.2.1, 720, .inl res.2.2.2.2.2.2.1)), (ah_text, .inl (g.2.1, 60, .inl vh_text)), (ah_signs, .inl (g.2.1, 30, .inl res.2.2.2.2.2.2.2.1)), (ah_pauses, .inl (g.2.1, 30, .inl res.2.2.2.2.2.2.2.2))]) 0 0) 0 [(0, .ref ah)] [] ([(ah, .inr (5, [.ref ah_all, .ref ah_kept, .ref ah_history, .int vh_historyLong, .ref ah_slots, .ref ah_isSaved, .ref ah_words, .int vh_groups, .ref ah_left, .int vh_leftLong, .ref ah_seen, .ref ah_text, .int vh_textLong, .int vh_spot, .ref ah_signs, .ref ah_pauses, .int vh_read])), (ah_all, .inl (g.2.1, 120, .inl vh_all)), (ah_history, .inl (g.2.1, 720, .inl vh_history)), (ah_text, .inl (g.2.1, 60, .inl vh_text)), (ah_signs, .inl (g.2.1, 30, .inl vh_signs)), (ah_pauses, .inl (g.2.1, 30, .inl vh_pauses))]) 0 0
  refine bw_aload_n 0 dX5_read_0 rfl rfl ?_
  obtain ⟨q_16, hc_16, hf⟩ := bw_bind hf
  refine bw_callV [] [] [(ah_all, .inl (g.2.1, 120, .inl vh_all)), (ah_history, .inl (g.2.1, 720, .inl vh_history))] 0 5 (s_X5_fault l g ah ah_all ah_kept ah_history ah_slots ah_isSaved ah_words ah_left ah_seen ah_text ah_signs ah_pauses vh_historyLong vh_groups vh_leftLong vh_textLong vh_spot vh_read vh_text vh_signs vh_pauses  _ hc_16) rfl co_X5_fault ini_X5 ml_X5_137 im_X5_fault se_X5_fault ar_X5_fault ⟨Nat.le_of_ble_eq_true rfl, Nat.le_of_ble_eq_true rfl⟩ ⟨Nat.le_of_ble_eq_true rfl, Nat.le_of_ble_eq_true rfl⟩ rfl rfl (bw_pick1 6 [0, 3, 4, 5, 1, 2] rfl rfl (by decide)) (Nat.le_of_ble_eq_true rfl) dX5_read_1 (fun r w1 hq => ?_)
  obtain ⟨rfl, rfl⟩ := hq
  refine bw_perm (ws1 := [(ah, .inr (5, [.ref ah_all, .ref ah_kept, .ref ah_history, .int vh_historyLong, .ref ah_slots, .ref ah_isSaved, .ref ah_words, .int vh_groups, .ref ah_left, .int vh_leftLong, .ref ah_seen, .ref ah_text, .int vh_textLong, .int q_16.2.1, .ref ah_signs, .ref ah_pauses, .int q_16.2.2.1])), (ah_all, .inl (g.2.1, 120, .inl vh_all)), (ah_history, .inl (g.2.1, 720, .inl vh_history)), (ah_text, .inl (g.2.1, 60, .inl vh_text)), (ah_signs, .inl (g.2.1, 30, .inl q_16.2.2.2.1)), (ah_pauses, .inl (g.2.1, 30, .inl q_16.2.2.2.2))]) (bw_pick1 6 [2, 0, 1, 3, 4, 5] rfl rfl (by decide)) ?_
  refine bw_st (st1 := [.int q_16.1]) rfl ?_
  refine bw_ldc ct_X5_70 dX5_read_4 ?_
  refine bw_icmp_eq 12 dX5_read_6 (by decide) (fun c_17 => ?_) (fun c_17 => ?_)
  · have hf := bw_pos c_17 hf
    refine bw_aload_n 0 dX5_read_12 rfl rfl ?_
    refine bw_gf bkX5 0 0 (by decide) fl_X5_7 rfl rfl dX5_read_13 ?_
    refine bw_iconst 3 dX5_read_16 (by decide) ?_
    obtain ⟨h_18, hf⟩ := bw_chk hf
    refine bw_iald 1 rfl h_18 dX5_read_17 ?_
    refine bw_aload_n 0 dX5_read_18 rfl rfl ?_
    refine bw_gf bkX5 0 16 (by decide) fl_X5_141 rfl rfl dX5_read_19 ?_
    refine bw_iadd dX5_read_22 ?_
    refine bw_bipush 24 dX5_read_23 (by decide) ?_
    refine bw_icmp_le 31 dX5_read_25 (by decide) (fun c_19 => ?_) (fun c_19 => ?_)
    · have hf := bw_pos c_19 hf
      refine bw_aload_n 0 dX5_read_31 rfl rfl ?_
      obtain ⟨q_20, hc_20, hf⟩ := bw_bind hf
      refine bw_callV [] [] [(ah_text, .inl (g.2.1, 60, .inl vh_text)), (ah_signs, .inl (g.2.1, 30, .inl q_16.2.2.2.1)), (ah_pauses, .inl (g.2.1, 30, .inl q_16.2.2.2.2))] 0 5 (s_X5_changes l g ah ah_all ah_kept ah_history ah_slots ah_isSaved ah_words ah_left ah_seen ah_text ah_signs ah_pauses vh_historyLong vh_groups vh_leftLong vh_textLong q_16.2.1 q_16.2.2.1 vh_all vh_history  _ hc_20) rfl co_X5_changes ini_X5 ml_X5_122 im_X5_changes se_X5_changes ar_X5_changes ⟨Nat.le_of_ble_eq_true rfl, Nat.le_of_ble_eq_true rfl⟩ ⟨Nat.le_of_ble_eq_true rfl, Nat.le_of_ble_eq_true rfl⟩ rfl rfl (bw_pick1 6 [0, 1, 2, 3, 4, 5] rfl rfl (by decide)) (Nat.le_of_ble_eq_true rfl) dX5_read_32 (fun r w1 hq => ?_)
      obtain ⟨rfl, rfl⟩ := hq
      refine bw_perm (ws1 := [(ah, .inr (5, [.ref ah_all, .ref ah_kept, .ref ah_history, .int q_20.1, .ref ah_slots, .ref ah_isSaved, .ref ah_words, .int vh_groups, .ref ah_left, .int vh_leftLong, .ref ah_seen, .ref ah_text, .int vh_textLong, .int q_16.2.1, .ref ah_signs, .ref ah_pauses, .int q_16.2.2.1])), (ah_all, .inl (g.2.1, 120, .inl vh_all)), (ah_history, .inl (g.2.1, 720, .inl q_20.2)), (ah_text, .inl (g.2.1, 60, .inl vh_text)), (ah_signs, .inl (g.2.1, 30, .inl q_16.2.2.2.1)), (ah_pauses, .inl (g.2.1, 30, .inl q_16.2.2.2.2))]) (bw_pick1 6 [3, 4, 5, 0, 1, 2] rfl rfl (by decide)) ?_
      refine bw_st (st1 := []) rfl ?_
      refine bw_iconst 0 dX5_read_35 (by decide) ?_
      refine bw_istore_n [(1, .int 0), (0, .ref ah)] dX5_read_36 rfl (by decide) rfl ?_
      refine bw_lv [1, 0] rfl ?_
      exact s_X5_read_L37 l g ah ah_all ah_kept ah_history ah_slots ah_isSaved ah_words ah_left ah_seen ah_text ah_signs ah_pauses bw_F q_20.1 vh_groups vh_leftLong vh_textLong q_16.2.1 q_16.2.2.1 vh_all q_20.2 vh_text q_16.2.2.2.1 q_16.2.2.2.2 0 _ hf
    · have hf := bw_neg c_19 hf
      refine bw_ldc ct_X5_131 dX5_read_28 ?_
      cases Option.some.inj hf
      exact bw_ret rfl rfl (Nat.le_of_ble_eq_true rfl) (Nat.le_of_ble_eq_true rfl) dX5_read_30 ⟨rfl, rfl⟩
  · have hf := bw_neg c_17 hf
    refine bw_ldc ct_X5_140 dX5_read_9 ?_
    cases Option.some.inj hf
    exact bw_ret rfl rfl (Nat.le_of_ble_eq_true rfl) (Nat.le_of_ble_eq_true rfl) dX5_read_11 ⟨rfl, rfl⟩
theorem ar_X5_hush : yX5_hush.cls ≠ "java/lang/invoke/MethodHandle" ∧ yX5_hush.cls ≠ "java/lang/invoke/VarHandle" ∧ (parseMethodDescriptor yX5_hush.desc).map (fun d => d.parameters.length) = some 0 := ⟨by decide, by decide, by decide +kernel⟩
def f_X5_hush (vh_historyLong : Int32) (vh_all : Nat → Int32) (vh_history : Nat → Int32)  : Option (Int32 × (Int32) × (Nat → Int32) × (Nat → Int32)) := ((f_X5_changes vh_historyLong vh_all vh_history).bind fun q_4 => (if bw_in 3 120 then ((f_X5_hushes vh_all).bind fun q_6 => some ((vh_all (Int32.toNatClampNeg 3)), q_4.1, q_6, q_4.2)) else none))
set_option maxHeartbeats 4000000 in
set_option maxRecDepth 100000 in
theorem s_X5_hush (l : Launch) (g : bwG) (ah ah_all ah_kept ah_history ah_slots ah_isSaved ah_words ah_left ah_seen ah_text ah_signs ah_pauses : Nat) (vh_historyLong : Int32) (vh_groups : Int32) (vh_leftLong : Int32) (vh_textLong : Int32) (vh_spot : Int32) (vh_read : Int32) (vh_all : Nat → Int32) (vh_history : Nat → Int32)  (res : Int32 × (Int32) × (Nat → Int32) × (Nat → Int32)) (hf : f_X5_hush vh_historyLong vh_all vh_history  = some res) : bwS l g yX5_hush cX5_hush 2 (some .int) ({ frames := 1, cells := 0, slots := 0, locals := 21 } : Room) [.ref ah] ([(ah, .inr (5, [.ref ah_all, .ref ah_kept, .ref ah_history, .int vh_historyLong, .ref ah_slots, .ref ah_isSaved, .ref ah_words, .int vh_groups, .ref ah_left, .int vh_leftLong, .ref ah_seen, .ref ah_text, .int vh_textLong, .int vh_spot, .ref ah_signs, .ref ah_pauses, .int vh_read])), (ah_all, .inl (g.2.1, 120, .inl vh_all)), (ah_history, .inl (g.2.1, 720, .inl vh_history))]) (fun r w => r = some (.int res.1) ∧ w = [(ah, .inr (5, [.ref ah_all, .ref ah_kept, .ref ah_history, .int res.2.1, .ref ah_slots, .ref ah_isSaved, .ref ah_words, .int vh_groups, .ref ah_left, .int vh_leftLong, .ref ah_seen, .ref ah_text, .int vh_textLong, .int vh_spot, .ref ah_signs, .ref ah_pauses, .int vh_read])), (ah_all, .inl (g.2.1, 120, .inl res.2.2.1)), (ah_history, .inl (g.2.1, 720, .inl res.2.2.2))]) := by
  refine bwS_of (by decide) (Nat.le_of_ble_eq_true rfl) ?_
  unfold f_X5_hush at hf
  show bwR l g cX5_hush 2 RX5 "hush" (some .int) ({ frames := 1, cells := 0, slots := 0, locals := 21 } : Room) bwT (bwZ g (fun r w => r = some (.int res.1) ∧ w = [(ah, .inr (5, [.ref ah_all, .ref ah_kept, .ref ah_history, .int res.2.1, .ref ah_slots, .ref ah_isSaved, .ref ah_words, .int vh_groups, .ref ah_left, .int vh_leftLong, .ref ah_seen, .ref ah_text, .int vh_textLong, .int vh_spot, .ref ah_signs, .ref ah_pauses, .int vh_read])), (ah_all, .inl (g.2.1, 120, .inl res.2.2.1)), (ah_history, .inl (g.2.1, 720, .inl res.2.2.2))]) 0 0) 0 [(0, .ref ah)] [] ([(ah, .inr (5, [.ref ah_all, .ref ah_kept, .ref ah_history, .int vh_historyLong, .ref ah_slots, .ref ah_isSaved, .ref ah_words, .int vh_groups, .ref ah_left, .int vh_leftLong, .ref ah_seen, .ref ah_text, .int vh_textLong, .int vh_spot, .ref ah_signs, .ref ah_pauses, .int vh_read])), (ah_all, .inl (g.2.1, 120, .inl vh_all)), (ah_history, .inl (g.2.1, 720, .inl vh_history))]) 0 0
  refine bw_aload_n 0 dX5_hush_0 rfl rfl ?_
  obtain ⟨q_4, hc_4, hf⟩ := bw_bind hf
  refine bw_callV [] [] [] 0 5 (s_X5_changes l g ah ah_all ah_kept ah_history ah_slots ah_isSaved ah_words ah_left ah_seen ah_text ah_signs ah_pauses vh_historyLong vh_groups vh_leftLong vh_textLong vh_spot vh_read vh_all vh_history  _ hc_4) rfl co_X5_changes ini_X5 ml_X5_122 im_X5_changes se_X5_changes ar_X5_changes ⟨Nat.le_of_ble_eq_true rfl, Nat.le_of_ble_eq_true rfl⟩ ⟨Nat.le_of_ble_eq_true rfl, Nat.le_of_ble_eq_true rfl⟩ rfl rfl (bw_pick1 3 [0, 1, 2] rfl rfl (by decide)) (Nat.le_of_ble_eq_true rfl) dX5_hush_1 (fun r w1 hq => ?_)
  obtain ⟨rfl, rfl⟩ := hq
  refine bw_perm (ws1 := [(ah, .inr (5, [.ref ah_all, .ref ah_kept, .ref ah_history, .int q_4.1, .ref ah_slots, .ref ah_isSaved, .ref ah_words, .int vh_groups, .ref ah_left, .int vh_leftLong, .ref ah_seen, .ref ah_text, .int vh_textLong, .int vh_spot, .ref ah_signs, .ref ah_pauses, .int vh_read])), (ah_all, .inl (g.2.1, 120, .inl vh_all)), (ah_history, .inl (g.2.1, 720, .inl q_4.2))]) (bw_pick1 3 [0, 1, 2] rfl rfl (by decide)) ?_
  refine bw_st (st1 := []) rfl ?_
  refine bw_aload_n 0 dX5_hush_4 rfl rfl ?_
  refine bw_gf bkX5 0 0 (by decide) fl_X5_7 rfl rfl dX5_hush_5 ?_
  refine bw_iconst 3 dX5_hush_8 (by decide) ?_
  obtain ⟨h_5, hf⟩ := bw_chk hf
  refine bw_iald 1 rfl h_5 dX5_hush_9 ?_
  refine bw_istore_n [(1, .int ((vh_all (Int32.toNatClampNeg 3)))), (0, .ref ah)] dX5_hush_10 rfl (by decide) rfl ?_
  refine bw_aload_n 1 dX5_hush_11 rfl rfl ?_
  obtain ⟨q_6, hc_6, hf⟩ := bw_bind hf
  refine bw_callV [] [] [(ah_history, .inl (g.2.1, 720, .inl q_4.2))] 0 5 (s_X5_hushes l g ah ah_all ah_kept ah_history ah_slots ah_isSaved ah_words ah_left ah_seen ah_text ah_signs ah_pauses q_4.1 vh_groups vh_leftLong vh_textLong vh_spot vh_read vh_all  _ hc_6) rfl co_X5_hushes ini_X5 ml_X5_113 im_X5_hushes se_X5_hushes ar_X5_hushes ⟨Nat.le_of_ble_eq_true rfl, Nat.le_of_ble_eq_true rfl⟩ ⟨Nat.le_of_ble_eq_true rfl, Nat.le_of_ble_eq_true rfl⟩ rfl rfl (bw_pick1 3 [0, 1, 2] rfl rfl (by decide)) (Nat.le_of_ble_eq_true rfl) dX5_hush_12 (fun r w1 hq => ?_)
  obtain ⟨rfl, rfl⟩ := hq
  refine bw_perm (ws1 := [(ah, .inr (5, [.ref ah_all, .ref ah_kept, .ref ah_history, .int q_4.1, .ref ah_slots, .ref ah_isSaved, .ref ah_words, .int vh_groups, .ref ah_left, .int vh_leftLong, .ref ah_seen, .ref ah_text, .int vh_textLong, .int vh_spot, .ref ah_signs, .ref ah_pauses, .int vh_read])), (ah_all, .inl (g.2.1, 120, .inl q_6)), (ah_history, .inl (g.2.1, 720, .inl q_4.2))]) (bw_pick1 3 [1, 2, 0] rfl rfl (by decide)) ?_
  refine bw_st (st1 := []) rfl ?_
  refine bw_iload_n 0 dX5_hush_15 rfl rfl ?_
  cases Option.some.inj hf
  exact bw_ret rfl rfl (Nat.le_of_ble_eq_true rfl) (Nat.le_of_ble_eq_true rfl) dX5_hush_16 ⟨rfl, rfl⟩
theorem ar_X5_give : yX5_give.cls ≠ "java/lang/invoke/MethodHandle" ∧ yX5_give.cls ≠ "java/lang/invoke/VarHandle" ∧ (parseMethodDescriptor yX5_give.desc).map (fun d => d.parameters.length) = some 0 := ⟨by decide, by decide, by decide +kernel⟩
def f_X5_give (vh_historyLong : Int32) (vh_groups : Int32) (vh_leftLong : Int32) (vh_all : Nat → Int32) (vh_history : Nat → Int32) (vh_words : Nat → Int32) (vh_left : Nat → Int32)  : Option (Int32 × (Int32) × (Int32) × (Int32) × (Nat → Int32) × (Nat → Int32) × (Nat → Int32) × (Nat → Int32)) := ((f_X5_canGive vh_groups vh_leftLong vh_all vh_words vh_left).bind fun q_5 => (if q_5.1 = 0 then some ((-1000005), vh_historyLong, q_5.2.1, q_5.2.2.1, vh_all, vh_history, q_5.2.2.2.1, q_5.2.2.2.2) else ((f_X5_changes vh_historyLong vh_all vh_history).bind fun q_7 => ((f_X5_gives q_5.2.1 q_5.2.2.1 vh_all q_5.2.2.2.1 q_5.2.2.2.2).bind fun q_8 => some (q_8.1, q_7.1, q_8.2.1, q_8.2.2.1, q_8.2.2.2.1, q_7.2, q_8.2.2.2.2.1, q_8.2.2.2.2.2)))))
set_option maxHeartbeats 4000000 in
set_option maxRecDepth 100000 in
theorem s_X5_give (l : Launch) (g : bwG) (ah ah_all ah_kept ah_history ah_slots ah_isSaved ah_words ah_left ah_seen ah_text ah_signs ah_pauses : Nat) (vh_historyLong : Int32) (vh_groups : Int32) (vh_leftLong : Int32) (vh_textLong : Int32) (vh_spot : Int32) (vh_read : Int32) (vh_all : Nat → Int32) (vh_history : Nat → Int32) (vh_words : Nat → Int32) (vh_left : Nat → Int32)  (res : Int32 × (Int32) × (Int32) × (Int32) × (Nat → Int32) × (Nat → Int32) × (Nat → Int32) × (Nat → Int32)) (hf : f_X5_give vh_historyLong vh_groups vh_leftLong vh_all vh_history vh_words vh_left  = some res) : bwS l g yX5_give cX5_give 1 (some .int) ({ frames := 7, cells := 0, slots := 0, locals := 156 } : Room) [.ref ah] ([(ah, .inr (5, [.ref ah_all, .ref ah_kept, .ref ah_history, .int vh_historyLong, .ref ah_slots, .ref ah_isSaved, .ref ah_words, .int vh_groups, .ref ah_left, .int vh_leftLong, .ref ah_seen, .ref ah_text, .int vh_textLong, .int vh_spot, .ref ah_signs, .ref ah_pauses, .int vh_read])), (ah_all, .inl (g.2.1, 120, .inl vh_all)), (ah_history, .inl (g.2.1, 720, .inl vh_history)), (ah_words, .inl (g.2.1, 24, .inl vh_words)), (ah_left, .inl (g.2.1, 24, .inl vh_left))]) (fun r w => r = some (.int res.1) ∧ w = [(ah, .inr (5, [.ref ah_all, .ref ah_kept, .ref ah_history, .int res.2.1, .ref ah_slots, .ref ah_isSaved, .ref ah_words, .int res.2.2.1, .ref ah_left, .int res.2.2.2.1, .ref ah_seen, .ref ah_text, .int vh_textLong, .int vh_spot, .ref ah_signs, .ref ah_pauses, .int vh_read])), (ah_all, .inl (g.2.1, 120, .inl res.2.2.2.2.1)), (ah_history, .inl (g.2.1, 720, .inl res.2.2.2.2.2.1)), (ah_words, .inl (g.2.1, 24, .inl res.2.2.2.2.2.2.1)), (ah_left, .inl (g.2.1, 24, .inl res.2.2.2.2.2.2.2))]) := by
  refine bwS_of (by decide) (Nat.le_of_ble_eq_true rfl) ?_
  unfold f_X5_give at hf
  show bwR l g cX5_give 1 RX5 "give" (some .int) ({ frames := 7, cells := 0, slots := 0, locals := 156 } : Room) bwT (bwZ g (fun r w => r = some (.int res.1) ∧ w = [(ah, .inr (5, [.ref ah_all, .ref ah_kept, .ref ah_history, .int res.2.1, .ref ah_slots, .ref ah_isSaved, .ref ah_words, .int res.2.2.1, .ref ah_left, .int res.2.2.2.1, .ref ah_seen, .ref ah_text, .int vh_textLong, .int vh_spot, .ref ah_signs, .ref ah_pauses, .int vh_read])), (ah_all, .inl (g.2.1, 120, .inl res.2.2.2.2.1)), (ah_history, .inl (g.2.1, 720, .inl res.2.2.2.2.2.1)), (ah_words, .inl (g.2.1, 24, .inl res.2.2.2.2.2.2.1)), (ah_left, .inl (g.2.1, 24, .inl res.2.2.2.2.2.2.2))]) 0 0) 0 [(0, .ref ah)] [] ([(ah, .inr (5, [.ref ah_all, .ref ah_kept, .ref ah_history, .int vh_historyLong, .ref ah_slots, .ref ah_isSaved, .ref ah_words, .int vh_groups, .ref ah_left, .int vh_leftLong, .ref ah_seen, .ref ah_text, .int vh_textLong, .int vh_spot, .ref ah_signs, .ref ah_pauses, .int vh_read])), (ah_all, .inl (g.2.1, 120, .inl vh_all)), (ah_history, .inl (g.2.1, 720, .inl vh_history)), (ah_words, .inl (g.2.1, 24, .inl vh_words)), (ah_left, .inl (g.2.1, 24, .inl vh_left))]) 0 0
  refine bw_aload_n 0 dX5_give_0 rfl rfl ?_
  obtain ⟨q_5, hc_5, hf⟩ := bw_bind hf
  refine bw_callV [] [] [(ah_history, .inl (g.2.1, 720, .inl vh_history))] 0 5 (s_X5_canGive l g ah ah_all ah_kept ah_history ah_slots ah_isSaved ah_words ah_left ah_seen ah_text ah_signs ah_pauses vh_historyLong vh_groups vh_leftLong vh_textLong vh_spot vh_read vh_all vh_words vh_left  _ hc_5) rfl co_X5_canGive ini_X5 ml_X5_147 im_X5_canGive se_X5_canGive ar_X5_canGive ⟨Nat.le_of_ble_eq_true rfl, Nat.le_of_ble_eq_true rfl⟩ ⟨Nat.le_of_ble_eq_true rfl, Nat.le_of_ble_eq_true rfl⟩ rfl rfl (bw_pick1 5 [0, 1, 3, 4, 2] rfl rfl (by decide)) (Nat.le_of_ble_eq_true rfl) dX5_give_1 (fun r w1 hq => ?_)
  obtain ⟨rfl, rfl⟩ := hq
  refine bw_perm (ws1 := [(ah, .inr (5, [.ref ah_all, .ref ah_kept, .ref ah_history, .int vh_historyLong, .ref ah_slots, .ref ah_isSaved, .ref ah_words, .int q_5.2.1, .ref ah_left, .int q_5.2.2.1, .ref ah_seen, .ref ah_text, .int vh_textLong, .int vh_spot, .ref ah_signs, .ref ah_pauses, .int vh_read])), (ah_all, .inl (g.2.1, 120, .inl vh_all)), (ah_history, .inl (g.2.1, 720, .inl vh_history)), (ah_words, .inl (g.2.1, 24, .inl q_5.2.2.2.1)), (ah_left, .inl (g.2.1, 24, .inl q_5.2.2.2.2))]) (bw_pick1 5 [1, 2, 0, 3, 4] rfl rfl (by decide)) ?_
  refine bw_st (st1 := [.int q_5.1]) rfl ?_
  refine bw_if_ne 10 dX5_give_4 (by decide) (fun c_6 => ?_) (fun c_6 => ?_)
  · have hf := bw_neg c_6 hf
    refine bw_aload_n 0 dX5_give_10 rfl rfl ?_
    obtain ⟨q_7, hc_7, hf⟩ := bw_bind hf
    refine bw_callV [] [] [(ah_words, .inl (g.2.1, 24, .inl q_5.2.2.2.1)), (ah_left, .inl (g.2.1, 24, .inl q_5.2.2.2.2))] 0 5 (s_X5_changes l g ah ah_all ah_kept ah_history ah_slots ah_isSaved ah_words ah_left ah_seen ah_text ah_signs ah_pauses vh_historyLong q_5.2.1 q_5.2.2.1 vh_textLong vh_spot vh_read vh_all vh_history  _ hc_7) rfl co_X5_changes ini_X5 ml_X5_122 im_X5_changes se_X5_changes ar_X5_changes ⟨Nat.le_of_ble_eq_true rfl, Nat.le_of_ble_eq_true rfl⟩ ⟨Nat.le_of_ble_eq_true rfl, Nat.le_of_ble_eq_true rfl⟩ rfl rfl (bw_pick1 5 [0, 1, 2, 3, 4] rfl rfl (by decide)) (Nat.le_of_ble_eq_true rfl) dX5_give_11 (fun r w1 hq => ?_)
    obtain ⟨rfl, rfl⟩ := hq
    refine bw_perm (ws1 := [(ah, .inr (5, [.ref ah_all, .ref ah_kept, .ref ah_history, .int q_7.1, .ref ah_slots, .ref ah_isSaved, .ref ah_words, .int q_5.2.1, .ref ah_left, .int q_5.2.2.1, .ref ah_seen, .ref ah_text, .int vh_textLong, .int vh_spot, .ref ah_signs, .ref ah_pauses, .int vh_read])), (ah_all, .inl (g.2.1, 120, .inl vh_all)), (ah_history, .inl (g.2.1, 720, .inl q_7.2)), (ah_words, .inl (g.2.1, 24, .inl q_5.2.2.2.1)), (ah_left, .inl (g.2.1, 24, .inl q_5.2.2.2.2))]) (bw_pick1 5 [2, 3, 4, 0, 1] rfl rfl (by decide)) ?_
    refine bw_st (st1 := []) rfl ?_
    refine bw_aload_n 0 dX5_give_14 rfl rfl ?_
    obtain ⟨q_8, hc_8, hf⟩ := bw_bind hf
    refine bw_callV [] [] [(ah_history, .inl (g.2.1, 720, .inl q_7.2))] 0 5 (s_X5_gives l g ah ah_all ah_kept ah_history ah_slots ah_isSaved ah_words ah_left ah_seen ah_text ah_signs ah_pauses q_7.1 q_5.2.1 q_5.2.2.1 vh_textLong vh_spot vh_read vh_all q_5.2.2.2.1 q_5.2.2.2.2  _ hc_8) rfl co_X5_gives ini_X5 ml_X5_150 im_X5_gives se_X5_gives ar_X5_gives ⟨Nat.le_of_ble_eq_true rfl, Nat.le_of_ble_eq_true rfl⟩ ⟨Nat.le_of_ble_eq_true rfl, Nat.le_of_ble_eq_true rfl⟩ rfl rfl (bw_pick1 5 [0, 1, 3, 4, 2] rfl rfl (by decide)) (Nat.le_of_ble_eq_true rfl) dX5_give_15 (fun r w1 hq => ?_)
    obtain ⟨rfl, rfl⟩ := hq
    refine bw_perm (ws1 := [(ah, .inr (5, [.ref ah_all, .ref ah_kept, .ref ah_history, .int q_7.1, .ref ah_slots, .ref ah_isSaved, .ref ah_words, .int q_8.2.1, .ref ah_left, .int q_8.2.2.1, .ref ah_seen, .ref ah_text, .int vh_textLong, .int vh_spot, .ref ah_signs, .ref ah_pauses, .int vh_read])), (ah_all, .inl (g.2.1, 120, .inl q_8.2.2.2.1)), (ah_history, .inl (g.2.1, 720, .inl q_7.2)), (ah_words, .inl (g.2.1, 24, .inl q_8.2.2.2.2.1)), (ah_left, .inl (g.2.1, 24, .inl q_8.2.2.2.2.2))]) (bw_pick1 5 [1, 2, 0, 3, 4] rfl rfl (by decide)) ?_
    refine bw_st (st1 := [.int q_8.1]) rfl ?_
    cases Option.some.inj hf
    exact bw_ret rfl rfl (Nat.le_of_ble_eq_true rfl) (Nat.le_of_ble_eq_true rfl) dX5_give_18 ⟨rfl, rfl⟩
  · have hf := bw_pos c_6 hf
    refine bw_ldc ct_X5_136 dX5_give_7 ?_
    cases Option.some.inj hf
    exact bw_ret rfl rfl (Nat.le_of_ble_eq_true rfl) (Nat.le_of_ble_eq_true rfl) dX5_give_9 ⟨rfl, rfl⟩
def f_X5_flourishes_L4 : Nat → (Int32) → (Nat → Int32) → (Int32) → (Int32) → Option (Int32)
  | 0, _, _, _, _ => none
  | fu + 1, vh_groups, vh_words, x1, x2 => (if vh_groups ≤ x2 then some x1 else (if bw_in x2 24 then ((f_X5_isFlourish ((vh_words (Int32.toNatClampNeg x2)))).bind fun q_7 => (if q_7 = 0 then (f_X5_flourishes_L4 fu vh_groups vh_words ((x1 + 0)) ((x2 + 1))) else (f_X5_flourishes_L4 fu vh_groups vh_words ((x1 + 1)) ((x2 + 1))))) else none))
set_option maxHeartbeats 4000000 in
set_option maxRecDepth 100000 in
theorem s_X5_flourishes_L4 (l : Launch) (g : bwG) (ah ah_all ah_kept ah_history ah_slots ah_isSaved ah_words ah_left ah_seen ah_text ah_signs ah_pauses : Nat) (fu : Nat) : ∀ (vh_historyLong : Int32) (vh_groups : Int32) (vh_leftLong : Int32) (vh_textLong : Int32) (vh_spot : Int32) (vh_read : Int32) (vh_words : Nat → Int32) (x1 : Int32) (x2 : Int32) (res : Int32), f_X5_flourishes_L4 fu vh_groups vh_words x1 x2 = some res → bwR l g cX5_flourishes 3 RX5 "flourishes" (some .int) ({ frames := 1, cells := 0, slots := 0, locals := 20 } : Room) bwT (bwZ g (fun r w => r = some (.int res) ∧ w = [(ah, .inr (5, [.ref ah_all, .ref ah_kept, .ref ah_history, .int vh_historyLong, .ref ah_slots, .ref ah_isSaved, .ref ah_words, .int vh_groups, .ref ah_left, .int vh_leftLong, .ref ah_seen, .ref ah_text, .int vh_textLong, .int vh_spot, .ref ah_signs, .ref ah_pauses, .int vh_read])), (ah_words, .inl (g.2.1, 24, .inl vh_words))]) 0 0) 4 [(0, .ref ah), (1, .int x1), (2, .int x2)] [] ([(ah, .inr (5, [.ref ah_all, .ref ah_kept, .ref ah_history, .int vh_historyLong, .ref ah_slots, .ref ah_isSaved, .ref ah_words, .int vh_groups, .ref ah_left, .int vh_leftLong, .ref ah_seen, .ref ah_text, .int vh_textLong, .int vh_spot, .ref ah_signs, .ref ah_pauses, .int vh_read])), (ah_words, .inl (g.2.1, 24, .inl vh_words))]) 0 0 := by
  induction fu with
  | zero => intro vh_historyLong vh_groups vh_leftLong vh_textLong vh_spot vh_read vh_words x1 x2 res hf; exact absurd hf (by intro h; cases h)
  | succ fu ih =>
    intro vh_historyLong vh_groups vh_leftLong vh_textLong vh_spot vh_read vh_words x1 x2 res hf
    rw [f_X5_flourishes_L4] at hf
    refine bw_iload_n 2 dX5_flourishes_4 rfl rfl ?_
    refine bw_aload_n 0 dX5_flourishes_5 rfl rfl ?_
    refine bw_gf bkX5 0 7 (by decide) fl_X5_59 rfl rfl dX5_flourishes_6 ?_
    refine bw_icmp_ge 38 dX5_flourishes_9 (by decide) (fun c_5 => ?_) (fun c_5 => ?_)
    · have hf := bw_pos c_5 hf
      refine bw_iload_n 1 dX5_flourishes_38 rfl rfl ?_
      cases Option.some.inj hf
      exact bw_ret rfl rfl (Nat.le_of_ble_eq_true rfl) (Nat.le_of_ble_eq_true rfl) dX5_flourishes_39 ⟨rfl, rfl⟩
    · have hf := bw_neg c_5 hf
      refine bw_iload_n 1 dX5_flourishes_12 rfl rfl ?_
      refine bw_aload_n 0 dX5_flourishes_13 rfl rfl ?_
      refine bw_gf bkX5 0 6 (by decide) fl_X5_25 rfl rfl dX5_flourishes_14 ?_
      refine bw_iload_n 2 dX5_flourishes_17 rfl rfl ?_
      obtain ⟨h_6, hf⟩ := bw_chk hf
      refine bw_iald 1 rfl h_6 dX5_flourishes_18 ?_
      obtain ⟨q_7, hc_7, hf⟩ := bw_bind hf
      refine bw_callS [.int ((vh_words (Int32.toNatClampNeg x2)))] [.int x1] [(ah, .inr (5, [.ref ah_all, .ref ah_kept, .ref ah_history, .int vh_historyLong, .ref ah_slots, .ref ah_isSaved, .ref ah_words, .int vh_groups, .ref ah_left, .int vh_leftLong, .ref ah_seen, .ref ah_text, .int vh_textLong, .int vh_spot, .ref ah_signs, .ref ah_pauses, .int vh_read])), (ah_words, .inl (g.2.1, 24, .inl vh_words))] (s_X5_isFlourish l g   ((vh_words (Int32.toNatClampNeg x2))) _ hc_7) rfl co_X5_isFlourish ini_X5 ml_X5_74 st_X5_isFlourish ar_X5_isFlourish ⟨Nat.le_of_ble_eq_true rfl, Nat.le_of_ble_eq_true rfl⟩ ⟨Nat.le_of_ble_eq_true rfl, Nat.le_of_ble_eq_true rfl⟩ (bw_pick1 2 [0, 1] rfl rfl (by decide)) (Nat.le_of_ble_eq_true rfl) dX5_flourishes_19 (fun r w1 hq => ?_)
      obtain ⟨rfl, rfl⟩ := hq
      refine bw_perm (ws1 := [(ah, .inr (5, [.ref ah_all, .ref ah_kept, .ref ah_history, .int vh_historyLong, .ref ah_slots, .ref ah_isSaved, .ref ah_words, .int vh_groups, .ref ah_left, .int vh_leftLong, .ref ah_seen, .ref ah_text, .int vh_textLong, .int vh_spot, .ref ah_signs, .ref ah_pauses, .int vh_read])), (ah_words, .inl (g.2.1, 24, .inl vh_words))]) (bw_pick1 2 [0, 1] rfl rfl (by decide)) ?_
      refine bw_st (st1 := [.int q_7, .int x1]) rfl ?_
      refine bw_if_eq 29 dX5_flourishes_22 (by decide) (fun c_8 => ?_) (fun c_8 => ?_)
      · have hf := bw_pos c_8 hf
        refine bw_iconst 0 dX5_flourishes_29 (by decide) ?_
        refine bw_iadd dX5_flourishes_30 ?_
        refine bw_istore_n [(1, .int ((x1 + 0))), (0, .ref ah), (2, .int x2)] dX5_flourishes_31 rfl (by decide) rfl ?_
        refine bw_iinc 2 (x2 + 1) [(2, .int ((x2 + 1))), (1, .int ((x1 + 0))), (0, .ref ah)] dX5_flourishes_32 rfl rfl (by decide) rfl ?_
        refine bw_goto 4 dX5_flourishes_35 (by decide) ?_
        refine bw_lv [2, 1, 0] rfl ?_
        exact ih vh_historyLong vh_groups vh_leftLong vh_textLong vh_spot vh_read vh_words ((x1 + 0)) ((x2 + 1)) _ hf
      · have hf := bw_neg c_8 hf
        refine bw_iconst 1 dX5_flourishes_25 (by decide) ?_
        refine bw_goto 30 dX5_flourishes_26 (by decide) ?_
        refine bw_iadd dX5_flourishes_30 ?_
        refine bw_istore_n [(1, .int ((x1 + 1))), (0, .ref ah), (2, .int x2)] dX5_flourishes_31 rfl (by decide) rfl ?_
        refine bw_iinc 2 (x2 + 1) [(2, .int ((x2 + 1))), (1, .int ((x1 + 1))), (0, .ref ah)] dX5_flourishes_32 rfl rfl (by decide) rfl ?_
        refine bw_goto 4 dX5_flourishes_35 (by decide) ?_
        refine bw_lv [2, 1, 0] rfl ?_
        exact ih vh_historyLong vh_groups vh_leftLong vh_textLong vh_spot vh_read vh_words ((x1 + 1)) ((x2 + 1)) _ hf
theorem ar_X5_flourishes : yX5_flourishes.cls ≠ "java/lang/invoke/MethodHandle" ∧ yX5_flourishes.cls ≠ "java/lang/invoke/VarHandle" ∧ (parseMethodDescriptor yX5_flourishes.desc).map (fun d => d.parameters.length) = some 0 := ⟨by decide, by decide, by decide +kernel⟩
def f_X5_flourishes (vh_groups : Int32) (vh_words : Nat → Int32)  : Option (Int32) := (f_X5_flourishes_L4 bw_F vh_groups vh_words 0 0)
set_option maxHeartbeats 4000000 in
set_option maxRecDepth 100000 in
theorem s_X5_flourishes (l : Launch) (g : bwG) (ah ah_all ah_kept ah_history ah_slots ah_isSaved ah_words ah_left ah_seen ah_text ah_signs ah_pauses : Nat) (vh_historyLong : Int32) (vh_groups : Int32) (vh_leftLong : Int32) (vh_textLong : Int32) (vh_spot : Int32) (vh_read : Int32) (vh_words : Nat → Int32)  (res : Int32) (hf : f_X5_flourishes vh_groups vh_words  = some res) : bwS l g yX5_flourishes cX5_flourishes 3 (some .int) ({ frames := 1, cells := 0, slots := 0, locals := 20 } : Room) [.ref ah] ([(ah, .inr (5, [.ref ah_all, .ref ah_kept, .ref ah_history, .int vh_historyLong, .ref ah_slots, .ref ah_isSaved, .ref ah_words, .int vh_groups, .ref ah_left, .int vh_leftLong, .ref ah_seen, .ref ah_text, .int vh_textLong, .int vh_spot, .ref ah_signs, .ref ah_pauses, .int vh_read])), (ah_words, .inl (g.2.1, 24, .inl vh_words))]) (fun r w => r = some (.int res) ∧ w = [(ah, .inr (5, [.ref ah_all, .ref ah_kept, .ref ah_history, .int vh_historyLong, .ref ah_slots, .ref ah_isSaved, .ref ah_words, .int vh_groups, .ref ah_left, .int vh_leftLong, .ref ah_seen, .ref ah_text, .int vh_textLong, .int vh_spot, .ref ah_signs, .ref ah_pauses, .int vh_read])), (ah_words, .inl (g.2.1, 24, .inl vh_words))]) := by
  refine bwS_of (by decide) (Nat.le_of_ble_eq_true rfl) ?_
  unfold f_X5_flourishes at hf
  show bwR l g cX5_flourishes 3 RX5 "flourishes" (some .int) ({ frames := 1, cells := 0, slots := 0, locals := 20 } : Room) bwT (bwZ g (fun r w => r = some (.int res) ∧ w = [(ah, .inr (5, [.ref ah_all, .ref ah_kept, .ref ah_history, .int vh_historyLong, .ref ah_slots, .ref ah_isSaved, .ref ah_words, .int vh_groups, .ref ah_left, .int vh_leftLong, .ref ah_seen, .ref ah_text, .int vh_textLong, .int vh_spot, .ref ah_signs, .ref ah_pauses, .int vh_read])), (ah_words, .inl (g.2.1, 24, .inl vh_words))]) 0 0) 0 [(0, .ref ah)] [] ([(ah, .inr (5, [.ref ah_all, .ref ah_kept, .ref ah_history, .int vh_historyLong, .ref ah_slots, .ref ah_isSaved, .ref ah_words, .int vh_groups, .ref ah_left, .int vh_leftLong, .ref ah_seen, .ref ah_text, .int vh_textLong, .int vh_spot, .ref ah_signs, .ref ah_pauses, .int vh_read])), (ah_words, .inl (g.2.1, 24, .inl vh_words))]) 0 0
  refine bw_iconst 0 dX5_flourishes_0 (by decide) ?_
  refine bw_istore_n [(1, .int 0), (0, .ref ah)] dX5_flourishes_1 rfl (by decide) rfl ?_
  refine bw_iconst 0 dX5_flourishes_2 (by decide) ?_
  refine bw_istore_n [(2, .int 0), (1, .int 0), (0, .ref ah)] dX5_flourishes_3 rfl (by decide) rfl ?_
  refine bw_lv [2, 1, 0] rfl ?_
  exact s_X5_flourishes_L4 l g ah ah_all ah_kept ah_history ah_slots ah_isSaved ah_words ah_left ah_seen ah_text ah_signs ah_pauses bw_F vh_historyLong vh_groups vh_leftLong vh_textLong vh_spot vh_read vh_words 0 0 _ hf
theorem ar_X5_speech : yX5_speech.cls ≠ "java/lang/invoke/MethodHandle" ∧ yX5_speech.cls ≠ "java/lang/invoke/VarHandle" ∧ (parseMethodDescriptor yX5_speech.desc).map (fun d => d.parameters.length) = some 2 := ⟨by decide, by decide, by decide +kernel⟩
def f_X5_speech (vh_groups : Int32) (vh_leftLong : Int32) (vh_all : Nat → Int32) (vh_words : Nat → Int32) (vh_left : Nat → Int32) (p0 : Int32) (p1 : Int32) : Option (Int32 × (Int32) × (Int32) × (Nat → Int32) × (Nat → Int32)) := ((f_X5_areEyes p0).bind fun q_11 => (if q_11 = 0 then some ((-1000002), vh_groups, vh_leftLong, vh_words, vh_left) else ((f_X5_in (((p1 : Int32).toInt64)) 0 3).bind fun q_13 => (if q_13 = 0 then some ((-1000002), vh_groups, vh_leftLong, vh_words, vh_left) else ((f_X5_sentences vh_groups vh_leftLong vh_all vh_words vh_left p0).bind fun q_15 => (if p1 = 0 then some (q_15.2.1, q_15.2.1, q_15.2.2.1, q_15.2.2.2.1, q_15.2.2.2.2) else (if p1 = 1 then ((f_X5_reason q_15.2.1 q_15.2.2.1 q_15.2.2.2.1 q_15.2.2.2.2).bind fun q_20 => some (q_20, q_15.2.1, q_15.2.2.1, q_15.2.2.2.1, q_15.2.2.2.2)) else (if p1 = 2 then some (q_15.1, q_15.2.1, q_15.2.2.1, q_15.2.2.2.1, q_15.2.2.2.2) else ((f_X5_flourishes q_15.2.1 q_15.2.2.2.1).bind fun q_19 => some (q_19, q_15.2.1, q_15.2.2.1, q_15.2.2.2.1, q_15.2.2.2.2))))))))))
set_option maxHeartbeats 4000000 in
set_option maxRecDepth 100000 in
theorem s_X5_speech (l : Launch) (g : bwG) (ah ah_all ah_kept ah_history ah_slots ah_isSaved ah_words ah_left ah_seen ah_text ah_signs ah_pauses : Nat) (vh_historyLong : Int32) (vh_groups : Int32) (vh_leftLong : Int32) (vh_textLong : Int32) (vh_spot : Int32) (vh_read : Int32) (vh_all : Nat → Int32) (vh_words : Nat → Int32) (vh_left : Nat → Int32) (p0 : Int32) (p1 : Int32) (res : Int32 × (Int32) × (Int32) × (Nat → Int32) × (Nat → Int32)) (hf : f_X5_speech vh_groups vh_leftLong vh_all vh_words vh_left p0 p1 = some res) : bwS l g yX5_speech cX5_speech 4 (some .int) ({ frames := 5, cells := 0, slots := 0, locals := 110 } : Room) [.ref ah, .int p0, .int p1] ([(ah, .inr (5, [.ref ah_all, .ref ah_kept, .ref ah_history, .int vh_historyLong, .ref ah_slots, .ref ah_isSaved, .ref ah_words, .int vh_groups, .ref ah_left, .int vh_leftLong, .ref ah_seen, .ref ah_text, .int vh_textLong, .int vh_spot, .ref ah_signs, .ref ah_pauses, .int vh_read])), (ah_all, .inl (g.2.1, 120, .inl vh_all)), (ah_words, .inl (g.2.1, 24, .inl vh_words)), (ah_left, .inl (g.2.1, 24, .inl vh_left))]) (fun r w => r = some (.int res.1) ∧ w = [(ah, .inr (5, [.ref ah_all, .ref ah_kept, .ref ah_history, .int vh_historyLong, .ref ah_slots, .ref ah_isSaved, .ref ah_words, .int res.2.1, .ref ah_left, .int res.2.2.1, .ref ah_seen, .ref ah_text, .int vh_textLong, .int vh_spot, .ref ah_signs, .ref ah_pauses, .int vh_read])), (ah_all, .inl (g.2.1, 120, .inl vh_all)), (ah_words, .inl (g.2.1, 24, .inl res.2.2.2.1)), (ah_left, .inl (g.2.1, 24, .inl res.2.2.2.2))]) := by
  refine bwS_of (by decide) (Nat.le_of_ble_eq_true rfl) ?_
  unfold f_X5_speech at hf
  show bwR l g cX5_speech 4 RX5 "speech" (some .int) ({ frames := 5, cells := 0, slots := 0, locals := 110 } : Room) bwT (bwZ g (fun r w => r = some (.int res.1) ∧ w = [(ah, .inr (5, [.ref ah_all, .ref ah_kept, .ref ah_history, .int vh_historyLong, .ref ah_slots, .ref ah_isSaved, .ref ah_words, .int res.2.1, .ref ah_left, .int res.2.2.1, .ref ah_seen, .ref ah_text, .int vh_textLong, .int vh_spot, .ref ah_signs, .ref ah_pauses, .int vh_read])), (ah_all, .inl (g.2.1, 120, .inl vh_all)), (ah_words, .inl (g.2.1, 24, .inl res.2.2.2.1)), (ah_left, .inl (g.2.1, 24, .inl res.2.2.2.2))]) 0 0) 0 [(0, .ref ah), (1, .int p0), (2, .int p1)] [] ([(ah, .inr (5, [.ref ah_all, .ref ah_kept, .ref ah_history, .int vh_historyLong, .ref ah_slots, .ref ah_isSaved, .ref ah_words, .int vh_groups, .ref ah_left, .int vh_leftLong, .ref ah_seen, .ref ah_text, .int vh_textLong, .int vh_spot, .ref ah_signs, .ref ah_pauses, .int vh_read])), (ah_all, .inl (g.2.1, 120, .inl vh_all)), (ah_words, .inl (g.2.1, 24, .inl vh_words)), (ah_left, .inl (g.2.1, 24, .inl vh_left))]) 0 0
  refine bw_iload_n 1 dX5_speech_0 rfl rfl ?_
  obtain ⟨q_11, hc_11, hf⟩ := bw_bind hf
  refine bw_callS [.int p0] [] [(ah, .inr (5, [.ref ah_all, .ref ah_kept, .ref ah_history, .int vh_historyLong, .ref ah_slots, .ref ah_isSaved, .ref ah_words, .int vh_groups, .ref ah_left, .int vh_leftLong, .ref ah_seen, .ref ah_text, .int vh_textLong, .int vh_spot, .ref ah_signs, .ref ah_pauses, .int vh_read])), (ah_all, .inl (g.2.1, 120, .inl vh_all)), (ah_words, .inl (g.2.1, 24, .inl vh_words)), (ah_left, .inl (g.2.1, 24, .inl vh_left))] (s_X5_areEyes l g   p0 _ hc_11) rfl co_X5_areEyes ini_X5 ml_X5_126 st_X5_areEyes ar_X5_areEyes ⟨Nat.le_of_ble_eq_true rfl, Nat.le_of_ble_eq_true rfl⟩ ⟨Nat.le_of_ble_eq_true rfl, Nat.le_of_ble_eq_true rfl⟩ (bw_pick1 4 [0, 1, 2, 3] rfl rfl (by decide)) (Nat.le_of_ble_eq_true rfl) dX5_speech_1 (fun r w1 hq => ?_)
  obtain ⟨rfl, rfl⟩ := hq
  refine bw_perm (ws1 := [(ah, .inr (5, [.ref ah_all, .ref ah_kept, .ref ah_history, .int vh_historyLong, .ref ah_slots, .ref ah_isSaved, .ref ah_words, .int vh_groups, .ref ah_left, .int vh_leftLong, .ref ah_seen, .ref ah_text, .int vh_textLong, .int vh_spot, .ref ah_signs, .ref ah_pauses, .int vh_read])), (ah_all, .inl (g.2.1, 120, .inl vh_all)), (ah_words, .inl (g.2.1, 24, .inl vh_words)), (ah_left, .inl (g.2.1, 24, .inl vh_left))]) (bw_pick1 4 [0, 1, 2, 3] rfl rfl (by decide)) ?_
  refine bw_st (st1 := [.int q_11]) rfl ?_
  refine bw_if_eq 19 dX5_speech_4 (by decide) (fun c_12 => ?_) (fun c_12 => ?_)
  · have hf := bw_pos c_12 hf
    refine bw_ldc ct_X5_121 dX5_speech_19 ?_
    cases Option.some.inj hf
    exact bw_ret rfl rfl (Nat.le_of_ble_eq_true rfl) (Nat.le_of_ble_eq_true rfl) dX5_speech_21 ⟨rfl, rfl⟩
  · have hf := bw_neg c_12 hf
    refine bw_iload_n 2 dX5_speech_7 rfl rfl ?_
    refine bw_i2l dX5_speech_8 ?_
    refine bw_lconst 0 dX5_speech_9 (by decide) ?_
    refine bw_ldc2 ct_X5_129 dX5_speech_10 ?_
    obtain ⟨q_13, hc_13, hf⟩ := bw_bind hf
    refine bw_callS [.long (((p1 : Int32).toInt64)), .long 0, .long 3] [] [(ah, .inr (5, [.ref ah_all, .ref ah_kept, .ref ah_history, .int vh_historyLong, .ref ah_slots, .ref ah_isSaved, .ref ah_words, .int vh_groups, .ref ah_left, .int vh_leftLong, .ref ah_seen, .ref ah_text, .int vh_textLong, .int vh_spot, .ref ah_signs, .ref ah_pauses, .int vh_read])), (ah_all, .inl (g.2.1, 120, .inl vh_all)), (ah_words, .inl (g.2.1, 24, .inl vh_words)), (ah_left, .inl (g.2.1, 24, .inl vh_left))] (s_X5_in l g   (((p1 : Int32).toInt64)) 0 3 _ hc_13) rfl co_X5_in ini_X5 ml_X5_49 st_X5_in ar_X5_in ⟨Nat.le_of_ble_eq_true rfl, Nat.le_of_ble_eq_true rfl⟩ ⟨Nat.le_of_ble_eq_true rfl, Nat.le_of_ble_eq_true rfl⟩ (bw_pick1 4 [0, 1, 2, 3] rfl rfl (by decide)) (Nat.le_of_ble_eq_true rfl) dX5_speech_13 (fun r w1 hq => ?_)
    obtain ⟨rfl, rfl⟩ := hq
    refine bw_perm (ws1 := [(ah, .inr (5, [.ref ah_all, .ref ah_kept, .ref ah_history, .int vh_historyLong, .ref ah_slots, .ref ah_isSaved, .ref ah_words, .int vh_groups, .ref ah_left, .int vh_leftLong, .ref ah_seen, .ref ah_text, .int vh_textLong, .int vh_spot, .ref ah_signs, .ref ah_pauses, .int vh_read])), (ah_all, .inl (g.2.1, 120, .inl vh_all)), (ah_words, .inl (g.2.1, 24, .inl vh_words)), (ah_left, .inl (g.2.1, 24, .inl vh_left))]) (bw_pick1 4 [0, 1, 2, 3] rfl rfl (by decide)) ?_
    refine bw_st (st1 := [.int q_13]) rfl ?_
    refine bw_if_ne 22 dX5_speech_16 (by decide) (fun c_14 => ?_) (fun c_14 => ?_)
    · have hf := bw_neg c_14 hf
      refine bw_aload_n 0 dX5_speech_22 rfl rfl ?_
      refine bw_iload_n 1 dX5_speech_23 rfl rfl ?_
      obtain ⟨q_15, hc_15, hf⟩ := bw_bind hf
      refine bw_callV [.int p0] [] [] 0 5 (s_X5_sentences l g ah ah_all ah_kept ah_history ah_slots ah_isSaved ah_words ah_left ah_seen ah_text ah_signs ah_pauses vh_historyLong vh_groups vh_leftLong vh_textLong vh_spot vh_read vh_all vh_words vh_left p0 _ hc_15) rfl co_X5_sentences ini_X5 ml_X5_102 im_X5_sentences se_X5_sentences ar_X5_sentences ⟨Nat.le_of_ble_eq_true rfl, Nat.le_of_ble_eq_true rfl⟩ ⟨Nat.le_of_ble_eq_true rfl, Nat.le_of_ble_eq_true rfl⟩ rfl rfl (bw_pick1 4 [0, 1, 2, 3] rfl rfl (by decide)) (Nat.le_of_ble_eq_true rfl) dX5_speech_24 (fun r w1 hq => ?_)
      obtain ⟨rfl, rfl⟩ := hq
      refine bw_perm (ws1 := [(ah, .inr (5, [.ref ah_all, .ref ah_kept, .ref ah_history, .int vh_historyLong, .ref ah_slots, .ref ah_isSaved, .ref ah_words, .int q_15.2.1, .ref ah_left, .int q_15.2.2.1, .ref ah_seen, .ref ah_text, .int vh_textLong, .int vh_spot, .ref ah_signs, .ref ah_pauses, .int vh_read])), (ah_all, .inl (g.2.1, 120, .inl vh_all)), (ah_words, .inl (g.2.1, 24, .inl q_15.2.2.2.1)), (ah_left, .inl (g.2.1, 24, .inl q_15.2.2.2.2))]) (bw_pick1 4 [0, 1, 2, 3] rfl rfl (by decide)) ?_
      refine bw_st (st1 := [.int q_15.1]) rfl ?_
      refine bw_istore_n [(3, .int q_15.1), (0, .ref ah), (1, .int p0), (2, .int p1)] dX5_speech_27 rfl (by decide) rfl ?_
      refine bw_iload_n 3 dX5_speech_28 rfl rfl ?_
      refine bw_if_ne 39 dX5_speech_29 (by decide) (fun c_16 => ?_) (fun c_16 => ?_)
      · have hf := bw_neg c_16 hf
        refine bw_iload_n 3 dX5_speech_39 rfl rfl ?_
        refine bw_iconst 1 dX5_speech_40 (by decide) ?_
        refine bw_icmp_ne 51 dX5_speech_41 (by decide) (fun c_17 => ?_) (fun c_17 => ?_)
        · have hf := bw_neg c_17 hf
          refine bw_iload_n 3 dX5_speech_51 rfl rfl ?_
          refine bw_iconst 2 dX5_speech_52 (by decide) ?_
          refine bw_icmp_ne 60 dX5_speech_53 (by decide) (fun c_18 => ?_) (fun c_18 => ?_)
          · have hf := bw_neg c_18 hf
            refine bw_aload_n 1 dX5_speech_60 rfl rfl ?_
            obtain ⟨q_19, hc_19, hf⟩ := bw_bind hf
            refine bw_callV [] [] [(ah_all, .inl (g.2.1, 120, .inl vh_all)), (ah_left, .inl (g.2.1, 24, .inl q_15.2.2.2.2))] 0 5 (s_X5_flourishes l g ah ah_all ah_kept ah_history ah_slots ah_isSaved ah_words ah_left ah_seen ah_text ah_signs ah_pauses vh_historyLong q_15.2.1 q_15.2.2.1 vh_textLong vh_spot vh_read q_15.2.2.2.1  _ hc_19) rfl co_X5_flourishes ini_X5 ml_X5_153 im_X5_flourishes se_X5_flourishes ar_X5_flourishes ⟨Nat.le_of_ble_eq_true rfl, Nat.le_of_ble_eq_true rfl⟩ ⟨Nat.le_of_ble_eq_true rfl, Nat.le_of_ble_eq_true rfl⟩ rfl rfl (bw_pick1 4 [0, 2, 1, 3] rfl rfl (by decide)) (Nat.le_of_ble_eq_true rfl) dX5_speech_61 (fun r w1 hq => ?_)
            obtain ⟨rfl, rfl⟩ := hq
            refine bw_perm (ws1 := [(ah, .inr (5, [.ref ah_all, .ref ah_kept, .ref ah_history, .int vh_historyLong, .ref ah_slots, .ref ah_isSaved, .ref ah_words, .int q_15.2.1, .ref ah_left, .int q_15.2.2.1, .ref ah_seen, .ref ah_text, .int vh_textLong, .int vh_spot, .ref ah_signs, .ref ah_pauses, .int vh_read])), (ah_all, .inl (g.2.1, 120, .inl vh_all)), (ah_words, .inl (g.2.1, 24, .inl q_15.2.2.2.1)), (ah_left, .inl (g.2.1, 24, .inl q_15.2.2.2.2))]) (bw_pick1 4 [2, 0, 3, 1] rfl rfl (by decide)) ?_
            refine bw_st (st1 := [.int q_19]) rfl ?_
            cases Option.some.inj hf
            exact bw_ret rfl rfl (Nat.le_of_ble_eq_true rfl) (Nat.le_of_ble_eq_true rfl) dX5_speech_64 ⟨rfl, rfl⟩
          · have hf := bw_pos c_18 hf
            refine bw_iload_n 0 dX5_speech_56 rfl rfl ?_
            refine bw_goto 64 dX5_speech_57 (by decide) ?_
            cases Option.some.inj hf
            exact bw_ret rfl rfl (Nat.le_of_ble_eq_true rfl) (Nat.le_of_ble_eq_true rfl) dX5_speech_64 ⟨rfl, rfl⟩
        · have hf := bw_pos c_17 hf
          refine bw_aload_n 1 dX5_speech_44 rfl rfl ?_
          obtain ⟨q_20, hc_20, hf⟩ := bw_bind hf
          refine bw_callV [] [] [(ah_all, .inl (g.2.1, 120, .inl vh_all))] 0 5 (s_X5_reason l g ah ah_all ah_kept ah_history ah_slots ah_isSaved ah_words ah_left ah_seen ah_text ah_signs ah_pauses vh_historyLong q_15.2.1 q_15.2.2.1 vh_textLong vh_spot vh_read q_15.2.2.2.1 q_15.2.2.2.2  _ hc_20) rfl co_X5_reason ini_X5 ml_X5_95 im_X5_reason se_X5_reason ar_X5_reason ⟨Nat.le_of_ble_eq_true rfl, Nat.le_of_ble_eq_true rfl⟩ ⟨Nat.le_of_ble_eq_true rfl, Nat.le_of_ble_eq_true rfl⟩ rfl rfl (bw_pick1 4 [0, 2, 3, 1] rfl rfl (by decide)) (Nat.le_of_ble_eq_true rfl) dX5_speech_45 (fun r w1 hq => ?_)
          obtain ⟨rfl, rfl⟩ := hq
          refine bw_perm (ws1 := [(ah, .inr (5, [.ref ah_all, .ref ah_kept, .ref ah_history, .int vh_historyLong, .ref ah_slots, .ref ah_isSaved, .ref ah_words, .int q_15.2.1, .ref ah_left, .int q_15.2.2.1, .ref ah_seen, .ref ah_text, .int vh_textLong, .int vh_spot, .ref ah_signs, .ref ah_pauses, .int vh_read])), (ah_all, .inl (g.2.1, 120, .inl vh_all)), (ah_words, .inl (g.2.1, 24, .inl q_15.2.2.2.1)), (ah_left, .inl (g.2.1, 24, .inl q_15.2.2.2.2))]) (bw_pick1 4 [1, 0, 2, 3] rfl rfl (by decide)) ?_
          refine bw_st (st1 := [.int q_20]) rfl ?_
          refine bw_goto 64 dX5_speech_48 (by decide) ?_
          cases Option.some.inj hf
          exact bw_ret rfl rfl (Nat.le_of_ble_eq_true rfl) (Nat.le_of_ble_eq_true rfl) dX5_speech_64 ⟨rfl, rfl⟩
      · have hf := bw_pos c_16 hf
        refine bw_aload_n 1 dX5_speech_32 rfl rfl ?_
        refine bw_gf bkX5 0 7 (by decide) fl_X5_59 rfl rfl dX5_speech_33 ?_
        refine bw_goto 64 dX5_speech_36 (by decide) ?_
        cases Option.some.inj hf
        exact bw_ret rfl rfl (Nat.le_of_ble_eq_true rfl) (Nat.le_of_ble_eq_true rfl) dX5_speech_64 ⟨rfl, rfl⟩
    · have hf := bw_pos c_14 hf
      refine bw_ldc ct_X5_121 dX5_speech_19 ?_
      cases Option.some.inj hf
      exact bw_ret rfl rfl (Nat.le_of_ble_eq_true rfl) (Nat.le_of_ble_eq_true rfl) dX5_speech_21 ⟨rfl, rfl⟩
theorem ar_X5_word : yX5_word.cls ≠ "java/lang/invoke/MethodHandle" ∧ yX5_word.cls ≠ "java/lang/invoke/VarHandle" ∧ (parseMethodDescriptor yX5_word.desc).map (fun d => d.parameters.length) = some 2 := ⟨by decide, by decide, by decide +kernel⟩
def f_X5_word (vh_groups : Int32) (vh_leftLong : Int32) (vh_all : Nat → Int32) (vh_words : Nat → Int32) (vh_left : Nat → Int32) (p0 : Int32) (p1 : Int32) : Option (Int32 × (Int32) × (Int32) × (Nat → Int32) × (Nat → Int32)) := ((f_X5_areEyes p0).bind fun q_7 => (if q_7 = 0 then some ((-1000002), vh_groups, vh_leftLong, vh_words, vh_left) else ((f_X5_parts vh_groups vh_leftLong vh_all vh_words vh_left p0).bind fun q_9 => ((f_X5_in (((p1 : Int32).toInt64)) 0 ((((q_9.1 : Int32).toInt64) - 1))).bind fun q_10 => (if q_10 = 0 then some ((-1000001), q_9.1, q_9.2.1, q_9.2.2.1, q_9.2.2.2) else (if bw_in p1 24 then some ((q_9.2.2.1 (Int32.toNatClampNeg p1)), q_9.1, q_9.2.1, q_9.2.2.1, q_9.2.2.2) else none))))))
set_option maxHeartbeats 4000000 in
set_option maxRecDepth 100000 in
theorem s_X5_word (l : Launch) (g : bwG) (ah ah_all ah_kept ah_history ah_slots ah_isSaved ah_words ah_left ah_seen ah_text ah_signs ah_pauses : Nat) (vh_historyLong : Int32) (vh_groups : Int32) (vh_leftLong : Int32) (vh_textLong : Int32) (vh_spot : Int32) (vh_read : Int32) (vh_all : Nat → Int32) (vh_words : Nat → Int32) (vh_left : Nat → Int32) (p0 : Int32) (p1 : Int32) (res : Int32 × (Int32) × (Int32) × (Nat → Int32) × (Nat → Int32)) (hf : f_X5_word vh_groups vh_leftLong vh_all vh_words vh_left p0 p1 = some res) : bwS l g yX5_word cX5_word 3 (some .int) ({ frames := 2, cells := 0, slots := 0, locals := 47 } : Room) [.ref ah, .int p0, .int p1] ([(ah, .inr (5, [.ref ah_all, .ref ah_kept, .ref ah_history, .int vh_historyLong, .ref ah_slots, .ref ah_isSaved, .ref ah_words, .int vh_groups, .ref ah_left, .int vh_leftLong, .ref ah_seen, .ref ah_text, .int vh_textLong, .int vh_spot, .ref ah_signs, .ref ah_pauses, .int vh_read])), (ah_all, .inl (g.2.1, 120, .inl vh_all)), (ah_words, .inl (g.2.1, 24, .inl vh_words)), (ah_left, .inl (g.2.1, 24, .inl vh_left))]) (fun r w => r = some (.int res.1) ∧ w = [(ah, .inr (5, [.ref ah_all, .ref ah_kept, .ref ah_history, .int vh_historyLong, .ref ah_slots, .ref ah_isSaved, .ref ah_words, .int res.2.1, .ref ah_left, .int res.2.2.1, .ref ah_seen, .ref ah_text, .int vh_textLong, .int vh_spot, .ref ah_signs, .ref ah_pauses, .int vh_read])), (ah_all, .inl (g.2.1, 120, .inl vh_all)), (ah_words, .inl (g.2.1, 24, .inl res.2.2.2.1)), (ah_left, .inl (g.2.1, 24, .inl res.2.2.2.2))]) := by
  refine bwS_of (by decide) (Nat.le_of_ble_eq_true rfl) ?_
  unfold f_X5_word at hf
  show bwR l g cX5_word 3 RX5 "word" (some .int) ({ frames := 2, cells := 0, slots := 0, locals := 47 } : Room) bwT (bwZ g (fun r w => r = some (.int res.1) ∧ w = [(ah, .inr (5, [.ref ah_all, .ref ah_kept, .ref ah_history, .int vh_historyLong, .ref ah_slots, .ref ah_isSaved, .ref ah_words, .int res.2.1, .ref ah_left, .int res.2.2.1, .ref ah_seen, .ref ah_text, .int vh_textLong, .int vh_spot, .ref ah_signs, .ref ah_pauses, .int vh_read])), (ah_all, .inl (g.2.1, 120, .inl vh_all)), (ah_words, .inl (g.2.1, 24, .inl res.2.2.2.1)), (ah_left, .inl (g.2.1, 24, .inl res.2.2.2.2))]) 0 0) 0 [(0, .ref ah), (1, .int p0), (2, .int p1)] [] ([(ah, .inr (5, [.ref ah_all, .ref ah_kept, .ref ah_history, .int vh_historyLong, .ref ah_slots, .ref ah_isSaved, .ref ah_words, .int vh_groups, .ref ah_left, .int vh_leftLong, .ref ah_seen, .ref ah_text, .int vh_textLong, .int vh_spot, .ref ah_signs, .ref ah_pauses, .int vh_read])), (ah_all, .inl (g.2.1, 120, .inl vh_all)), (ah_words, .inl (g.2.1, 24, .inl vh_words)), (ah_left, .inl (g.2.1, 24, .inl vh_left))]) 0 0
  refine bw_iload_n 1 dX5_word_0 rfl rfl ?_
  obtain ⟨q_7, hc_7, hf⟩ := bw_bind hf
  refine bw_callS [.int p0] [] [(ah, .inr (5, [.ref ah_all, .ref ah_kept, .ref ah_history, .int vh_historyLong, .ref ah_slots, .ref ah_isSaved, .ref ah_words, .int vh_groups, .ref ah_left, .int vh_leftLong, .ref ah_seen, .ref ah_text, .int vh_textLong, .int vh_spot, .ref ah_signs, .ref ah_pauses, .int vh_read])), (ah_all, .inl (g.2.1, 120, .inl vh_all)), (ah_words, .inl (g.2.1, 24, .inl vh_words)), (ah_left, .inl (g.2.1, 24, .inl vh_left))] (s_X5_areEyes l g   p0 _ hc_7) rfl co_X5_areEyes ini_X5 ml_X5_126 st_X5_areEyes ar_X5_areEyes ⟨Nat.le_of_ble_eq_true rfl, Nat.le_of_ble_eq_true rfl⟩ ⟨Nat.le_of_ble_eq_true rfl, Nat.le_of_ble_eq_true rfl⟩ (bw_pick1 4 [0, 1, 2, 3] rfl rfl (by decide)) (Nat.le_of_ble_eq_true rfl) dX5_word_1 (fun r w1 hq => ?_)
  obtain ⟨rfl, rfl⟩ := hq
  refine bw_perm (ws1 := [(ah, .inr (5, [.ref ah_all, .ref ah_kept, .ref ah_history, .int vh_historyLong, .ref ah_slots, .ref ah_isSaved, .ref ah_words, .int vh_groups, .ref ah_left, .int vh_leftLong, .ref ah_seen, .ref ah_text, .int vh_textLong, .int vh_spot, .ref ah_signs, .ref ah_pauses, .int vh_read])), (ah_all, .inl (g.2.1, 120, .inl vh_all)), (ah_words, .inl (g.2.1, 24, .inl vh_words)), (ah_left, .inl (g.2.1, 24, .inl vh_left))]) (bw_pick1 4 [0, 1, 2, 3] rfl rfl (by decide)) ?_
  refine bw_st (st1 := [.int q_7]) rfl ?_
  refine bw_if_ne 10 dX5_word_4 (by decide) (fun c_8 => ?_) (fun c_8 => ?_)
  · have hf := bw_neg c_8 hf
    refine bw_aload_n 0 dX5_word_10 rfl rfl ?_
    refine bw_iload_n 1 dX5_word_11 rfl rfl ?_
    obtain ⟨q_9, hc_9, hf⟩ := bw_bind hf
    refine bw_callV [.int p0] [] [] 0 5 (s_X5_parts l g ah ah_all ah_kept ah_history ah_slots ah_isSaved ah_words ah_left ah_seen ah_text ah_signs ah_pauses vh_historyLong vh_groups vh_leftLong vh_textLong vh_spot vh_read vh_all vh_words vh_left p0 _ hc_9) rfl co_X5_parts ini_X5 ml_X5_91 im_X5_parts se_X5_parts ar_X5_parts ⟨Nat.le_of_ble_eq_true rfl, Nat.le_of_ble_eq_true rfl⟩ ⟨Nat.le_of_ble_eq_true rfl, Nat.le_of_ble_eq_true rfl⟩ rfl rfl (bw_pick1 4 [0, 1, 2, 3] rfl rfl (by decide)) (Nat.le_of_ble_eq_true rfl) dX5_word_12 (fun r w1 hq => ?_)
    obtain ⟨rfl, rfl⟩ := hq
    refine bw_perm (ws1 := [(ah, .inr (5, [.ref ah_all, .ref ah_kept, .ref ah_history, .int vh_historyLong, .ref ah_slots, .ref ah_isSaved, .ref ah_words, .int q_9.1, .ref ah_left, .int q_9.2.1, .ref ah_seen, .ref ah_text, .int vh_textLong, .int vh_spot, .ref ah_signs, .ref ah_pauses, .int vh_read])), (ah_all, .inl (g.2.1, 120, .inl vh_all)), (ah_words, .inl (g.2.1, 24, .inl q_9.2.2.1)), (ah_left, .inl (g.2.1, 24, .inl q_9.2.2.2))]) (bw_pick1 4 [0, 1, 2, 3] rfl rfl (by decide)) ?_
    refine bw_st (st1 := []) rfl ?_
    refine bw_iload_n 2 dX5_word_15 rfl rfl ?_
    refine bw_i2l dX5_word_16 ?_
    refine bw_lconst 0 dX5_word_17 (by decide) ?_
    refine bw_aload_n 0 dX5_word_18 rfl rfl ?_
    refine bw_gf bkX5 0 7 (by decide) fl_X5_59 rfl rfl dX5_word_19 ?_
    refine bw_i2l dX5_word_22 ?_
    refine bw_lconst 1 dX5_word_23 (by decide) ?_
    refine bw_lsub dX5_word_24 ?_
    obtain ⟨q_10, hc_10, hf⟩ := bw_bind hf
    refine bw_callS [.long (((p1 : Int32).toInt64)), .long 0, .long ((((q_9.1 : Int32).toInt64) - 1))] [] [(ah, .inr (5, [.ref ah_all, .ref ah_kept, .ref ah_history, .int vh_historyLong, .ref ah_slots, .ref ah_isSaved, .ref ah_words, .int q_9.1, .ref ah_left, .int q_9.2.1, .ref ah_seen, .ref ah_text, .int vh_textLong, .int vh_spot, .ref ah_signs, .ref ah_pauses, .int vh_read])), (ah_all, .inl (g.2.1, 120, .inl vh_all)), (ah_words, .inl (g.2.1, 24, .inl q_9.2.2.1)), (ah_left, .inl (g.2.1, 24, .inl q_9.2.2.2))] (s_X5_in l g   (((p1 : Int32).toInt64)) 0 ((((q_9.1 : Int32).toInt64) - 1)) _ hc_10) rfl co_X5_in ini_X5 ml_X5_49 st_X5_in ar_X5_in ⟨Nat.le_of_ble_eq_true rfl, Nat.le_of_ble_eq_true rfl⟩ ⟨Nat.le_of_ble_eq_true rfl, Nat.le_of_ble_eq_true rfl⟩ (bw_pick1 4 [0, 1, 2, 3] rfl rfl (by decide)) (Nat.le_of_ble_eq_true rfl) dX5_word_25 (fun r w1 hq => ?_)
    obtain ⟨rfl, rfl⟩ := hq
    refine bw_perm (ws1 := [(ah, .inr (5, [.ref ah_all, .ref ah_kept, .ref ah_history, .int vh_historyLong, .ref ah_slots, .ref ah_isSaved, .ref ah_words, .int q_9.1, .ref ah_left, .int q_9.2.1, .ref ah_seen, .ref ah_text, .int vh_textLong, .int vh_spot, .ref ah_signs, .ref ah_pauses, .int vh_read])), (ah_all, .inl (g.2.1, 120, .inl vh_all)), (ah_words, .inl (g.2.1, 24, .inl q_9.2.2.1)), (ah_left, .inl (g.2.1, 24, .inl q_9.2.2.2))]) (bw_pick1 4 [0, 1, 2, 3] rfl rfl (by decide)) ?_
    refine bw_st (st1 := [.int q_10]) rfl ?_
    refine bw_if_eq 40 dX5_word_28 (by decide) (fun c_11 => ?_) (fun c_11 => ?_)
    · have hf := bw_pos c_11 hf
      refine bw_ldc ct_X5_125 dX5_word_40 ?_
      cases Option.some.inj hf
      exact bw_ret rfl rfl (Nat.le_of_ble_eq_true rfl) (Nat.le_of_ble_eq_true rfl) dX5_word_42 ⟨rfl, rfl⟩
    · have hf := bw_neg c_11 hf
      refine bw_aload_n 0 dX5_word_31 rfl rfl ?_
      refine bw_gf bkX5 0 6 (by decide) fl_X5_25 rfl rfl dX5_word_32 ?_
      refine bw_iload_n 2 dX5_word_35 rfl rfl ?_
      obtain ⟨h_12, hf⟩ := bw_chk hf
      refine bw_iald 2 rfl h_12 dX5_word_36 ?_
      refine bw_goto 42 dX5_word_37 (by decide) ?_
      cases Option.some.inj hf
      exact bw_ret rfl rfl (Nat.le_of_ble_eq_true rfl) (Nat.le_of_ble_eq_true rfl) dX5_word_42 ⟨rfl, rfl⟩
  · have hf := bw_pos c_8 hf
    refine bw_ldc ct_X5_121 dX5_word_7 ?_
    cases Option.some.inj hf
    exact bw_ret rfl rfl (Nat.le_of_ble_eq_true rfl) (Nat.le_of_ble_eq_true rfl) dX5_word_9 ⟨rfl, rfl⟩
theorem ar_X5_sentence : yX5_sentence.cls ≠ "java/lang/invoke/MethodHandle" ∧ yX5_sentence.cls ≠ "java/lang/invoke/VarHandle" ∧ (parseMethodDescriptor yX5_sentence.desc).map (fun d => d.parameters.length) = some 3 := ⟨by decide, by decide, by decide +kernel⟩
def f_X5_sentence (vh_groups : Int32) (vh_leftLong : Int32) (vh_all : Nat → Int32) (vh_words : Nat → Int32) (vh_left : Nat → Int32) (p0 : Int32) (p1 : Int32) (p2 : Int32) : Option (Int32 × (Int32) × (Int32) × (Nat → Int32) × (Nat → Int32)) := ((f_X5_areEyes p0).bind fun q_11 => (if q_11 = 0 then some ((-1000002), vh_groups, vh_leftLong, vh_words, vh_left) else ((f_X5_in (((p2 : Int32).toInt64)) 0 3).bind fun q_13 => (if q_13 = 0 then some ((-1000002), vh_groups, vh_leftLong, vh_words, vh_left) else ((f_X5_sentences vh_groups vh_leftLong vh_all vh_words vh_left p0).bind fun q_15 => ((f_X5_in (((p1 : Int32).toInt64)) 0 ((((q_15.1 : Int32).toInt64) - 1))).bind fun q_16 => (if q_16 = 0 then some ((-1000001), q_15.2.1, q_15.2.2.1, q_15.2.2.2.1, q_15.2.2.2.2) else (if p2 = 3 then (if bw_in (((3 * p1) + 1)) 24 then some ((1 - ((q_15.2.2.2.2 (Int32.toNatClampNeg (((3 * p1) + 1)))) - (q_15.2.2.2.2 (Int32.toNatClampNeg (((3 * p1) + 1)))) / 2 * 2)), q_15.2.1, q_15.2.2.1, q_15.2.2.2.1, q_15.2.2.2.2) else none) else (if bw_in (((3 * p1) + p2)) 24 then some ((q_15.2.2.2.2 (Int32.toNatClampNeg (((3 * p1) + p2)))), q_15.2.1, q_15.2.2.1, q_15.2.2.2.1, q_15.2.2.2.2) else none)))))))))
set_option maxHeartbeats 4000000 in
set_option maxRecDepth 100000 in
theorem s_X5_sentence (l : Launch) (g : bwG) (ah ah_all ah_kept ah_history ah_slots ah_isSaved ah_words ah_left ah_seen ah_text ah_signs ah_pauses : Nat) (vh_historyLong : Int32) (vh_groups : Int32) (vh_leftLong : Int32) (vh_textLong : Int32) (vh_spot : Int32) (vh_read : Int32) (vh_all : Nat → Int32) (vh_words : Nat → Int32) (vh_left : Nat → Int32) (p0 : Int32) (p1 : Int32) (p2 : Int32) (res : Int32 × (Int32) × (Int32) × (Nat → Int32) × (Nat → Int32)) (hf : f_X5_sentence vh_groups vh_leftLong vh_all vh_words vh_left p0 p1 p2 = some res) : bwS l g yX5_sentence cX5_sentence 5 (some .int) ({ frames := 5, cells := 0, slots := 0, locals := 110 } : Room) [.ref ah, .int p0, .int p1, .int p2] ([(ah, .inr (5, [.ref ah_all, .ref ah_kept, .ref ah_history, .int vh_historyLong, .ref ah_slots, .ref ah_isSaved, .ref ah_words, .int vh_groups, .ref ah_left, .int vh_leftLong, .ref ah_seen, .ref ah_text, .int vh_textLong, .int vh_spot, .ref ah_signs, .ref ah_pauses, .int vh_read])), (ah_all, .inl (g.2.1, 120, .inl vh_all)), (ah_words, .inl (g.2.1, 24, .inl vh_words)), (ah_left, .inl (g.2.1, 24, .inl vh_left))]) (fun r w => r = some (.int res.1) ∧ w = [(ah, .inr (5, [.ref ah_all, .ref ah_kept, .ref ah_history, .int vh_historyLong, .ref ah_slots, .ref ah_isSaved, .ref ah_words, .int res.2.1, .ref ah_left, .int res.2.2.1, .ref ah_seen, .ref ah_text, .int vh_textLong, .int vh_spot, .ref ah_signs, .ref ah_pauses, .int vh_read])), (ah_all, .inl (g.2.1, 120, .inl vh_all)), (ah_words, .inl (g.2.1, 24, .inl res.2.2.2.1)), (ah_left, .inl (g.2.1, 24, .inl res.2.2.2.2))]) := by
  refine bwS_of (by decide) (Nat.le_of_ble_eq_true rfl) ?_
  unfold f_X5_sentence at hf
  show bwR l g cX5_sentence 5 RX5 "sentence" (some .int) ({ frames := 5, cells := 0, slots := 0, locals := 110 } : Room) bwT (bwZ g (fun r w => r = some (.int res.1) ∧ w = [(ah, .inr (5, [.ref ah_all, .ref ah_kept, .ref ah_history, .int vh_historyLong, .ref ah_slots, .ref ah_isSaved, .ref ah_words, .int res.2.1, .ref ah_left, .int res.2.2.1, .ref ah_seen, .ref ah_text, .int vh_textLong, .int vh_spot, .ref ah_signs, .ref ah_pauses, .int vh_read])), (ah_all, .inl (g.2.1, 120, .inl vh_all)), (ah_words, .inl (g.2.1, 24, .inl res.2.2.2.1)), (ah_left, .inl (g.2.1, 24, .inl res.2.2.2.2))]) 0 0) 0 [(0, .ref ah), (1, .int p0), (2, .int p1), (3, .int p2)] [] ([(ah, .inr (5, [.ref ah_all, .ref ah_kept, .ref ah_history, .int vh_historyLong, .ref ah_slots, .ref ah_isSaved, .ref ah_words, .int vh_groups, .ref ah_left, .int vh_leftLong, .ref ah_seen, .ref ah_text, .int vh_textLong, .int vh_spot, .ref ah_signs, .ref ah_pauses, .int vh_read])), (ah_all, .inl (g.2.1, 120, .inl vh_all)), (ah_words, .inl (g.2.1, 24, .inl vh_words)), (ah_left, .inl (g.2.1, 24, .inl vh_left))]) 0 0
  refine bw_iload_n 1 dX5_sentence_0 rfl rfl ?_
  obtain ⟨q_11, hc_11, hf⟩ := bw_bind hf
  refine bw_callS [.int p0] [] [(ah, .inr (5, [.ref ah_all, .ref ah_kept, .ref ah_history, .int vh_historyLong, .ref ah_slots, .ref ah_isSaved, .ref ah_words, .int vh_groups, .ref ah_left, .int vh_leftLong, .ref ah_seen, .ref ah_text, .int vh_textLong, .int vh_spot, .ref ah_signs, .ref ah_pauses, .int vh_read])), (ah_all, .inl (g.2.1, 120, .inl vh_all)), (ah_words, .inl (g.2.1, 24, .inl vh_words)), (ah_left, .inl (g.2.1, 24, .inl vh_left))] (s_X5_areEyes l g   p0 _ hc_11) rfl co_X5_areEyes ini_X5 ml_X5_126 st_X5_areEyes ar_X5_areEyes ⟨Nat.le_of_ble_eq_true rfl, Nat.le_of_ble_eq_true rfl⟩ ⟨Nat.le_of_ble_eq_true rfl, Nat.le_of_ble_eq_true rfl⟩ (bw_pick1 4 [0, 1, 2, 3] rfl rfl (by decide)) (Nat.le_of_ble_eq_true rfl) dX5_sentence_1 (fun r w1 hq => ?_)
  obtain ⟨rfl, rfl⟩ := hq
  refine bw_perm (ws1 := [(ah, .inr (5, [.ref ah_all, .ref ah_kept, .ref ah_history, .int vh_historyLong, .ref ah_slots, .ref ah_isSaved, .ref ah_words, .int vh_groups, .ref ah_left, .int vh_leftLong, .ref ah_seen, .ref ah_text, .int vh_textLong, .int vh_spot, .ref ah_signs, .ref ah_pauses, .int vh_read])), (ah_all, .inl (g.2.1, 120, .inl vh_all)), (ah_words, .inl (g.2.1, 24, .inl vh_words)), (ah_left, .inl (g.2.1, 24, .inl vh_left))]) (bw_pick1 4 [0, 1, 2, 3] rfl rfl (by decide)) ?_
  refine bw_st (st1 := [.int q_11]) rfl ?_
  refine bw_if_eq 19 dX5_sentence_4 (by decide) (fun c_12 => ?_) (fun c_12 => ?_)
  · have hf := bw_pos c_12 hf
    refine bw_ldc ct_X5_121 dX5_sentence_19 ?_
    cases Option.some.inj hf
    exact bw_ret rfl rfl (Nat.le_of_ble_eq_true rfl) (Nat.le_of_ble_eq_true rfl) dX5_sentence_21 ⟨rfl, rfl⟩
  · have hf := bw_neg c_12 hf
    refine bw_iload_n 3 dX5_sentence_7 rfl rfl ?_
    refine bw_i2l dX5_sentence_8 ?_
    refine bw_lconst 0 dX5_sentence_9 (by decide) ?_
    refine bw_ldc2 ct_X5_129 dX5_sentence_10 ?_
    obtain ⟨q_13, hc_13, hf⟩ := bw_bind hf
    refine bw_callS [.long (((p2 : Int32).toInt64)), .long 0, .long 3] [] [(ah, .inr (5, [.ref ah_all, .ref ah_kept, .ref ah_history, .int vh_historyLong, .ref ah_slots, .ref ah_isSaved, .ref ah_words, .int vh_groups, .ref ah_left, .int vh_leftLong, .ref ah_seen, .ref ah_text, .int vh_textLong, .int vh_spot, .ref ah_signs, .ref ah_pauses, .int vh_read])), (ah_all, .inl (g.2.1, 120, .inl vh_all)), (ah_words, .inl (g.2.1, 24, .inl vh_words)), (ah_left, .inl (g.2.1, 24, .inl vh_left))] (s_X5_in l g   (((p2 : Int32).toInt64)) 0 3 _ hc_13) rfl co_X5_in ini_X5 ml_X5_49 st_X5_in ar_X5_in ⟨Nat.le_of_ble_eq_true rfl, Nat.le_of_ble_eq_true rfl⟩ ⟨Nat.le_of_ble_eq_true rfl, Nat.le_of_ble_eq_true rfl⟩ (bw_pick1 4 [0, 1, 2, 3] rfl rfl (by decide)) (Nat.le_of_ble_eq_true rfl) dX5_sentence_13 (fun r w1 hq => ?_)
    obtain ⟨rfl, rfl⟩ := hq
    refine bw_perm (ws1 := [(ah, .inr (5, [.ref ah_all, .ref ah_kept, .ref ah_history, .int vh_historyLong, .ref ah_slots, .ref ah_isSaved, .ref ah_words, .int vh_groups, .ref ah_left, .int vh_leftLong, .ref ah_seen, .ref ah_text, .int vh_textLong, .int vh_spot, .ref ah_signs, .ref ah_pauses, .int vh_read])), (ah_all, .inl (g.2.1, 120, .inl vh_all)), (ah_words, .inl (g.2.1, 24, .inl vh_words)), (ah_left, .inl (g.2.1, 24, .inl vh_left))]) (bw_pick1 4 [0, 1, 2, 3] rfl rfl (by decide)) ?_
    refine bw_st (st1 := [.int q_13]) rfl ?_
    refine bw_if_ne 22 dX5_sentence_16 (by decide) (fun c_14 => ?_) (fun c_14 => ?_)
    · have hf := bw_neg c_14 hf
      refine bw_aload_n 0 dX5_sentence_22 rfl rfl ?_
      refine bw_iload_n 1 dX5_sentence_23 rfl rfl ?_
      obtain ⟨q_15, hc_15, hf⟩ := bw_bind hf
      refine bw_callV [.int p0] [] [] 0 5 (s_X5_sentences l g ah ah_all ah_kept ah_history ah_slots ah_isSaved ah_words ah_left ah_seen ah_text ah_signs ah_pauses vh_historyLong vh_groups vh_leftLong vh_textLong vh_spot vh_read vh_all vh_words vh_left p0 _ hc_15) rfl co_X5_sentences ini_X5 ml_X5_102 im_X5_sentences se_X5_sentences ar_X5_sentences ⟨Nat.le_of_ble_eq_true rfl, Nat.le_of_ble_eq_true rfl⟩ ⟨Nat.le_of_ble_eq_true rfl, Nat.le_of_ble_eq_true rfl⟩ rfl rfl (bw_pick1 4 [0, 1, 2, 3] rfl rfl (by decide)) (Nat.le_of_ble_eq_true rfl) dX5_sentence_24 (fun r w1 hq => ?_)
      obtain ⟨rfl, rfl⟩ := hq
      refine bw_perm (ws1 := [(ah, .inr (5, [.ref ah_all, .ref ah_kept, .ref ah_history, .int vh_historyLong, .ref ah_slots, .ref ah_isSaved, .ref ah_words, .int q_15.2.1, .ref ah_left, .int q_15.2.2.1, .ref ah_seen, .ref ah_text, .int vh_textLong, .int vh_spot, .ref ah_signs, .ref ah_pauses, .int vh_read])), (ah_all, .inl (g.2.1, 120, .inl vh_all)), (ah_words, .inl (g.2.1, 24, .inl q_15.2.2.2.1)), (ah_left, .inl (g.2.1, 24, .inl q_15.2.2.2.2))]) (bw_pick1 4 [0, 1, 2, 3] rfl rfl (by decide)) ?_
      refine bw_st (st1 := [.int q_15.1]) rfl ?_
      refine bw_istore [(4, .int q_15.1), (0, .ref ah), (1, .int p0), (2, .int p1), (3, .int p2)] dX5_sentence_27 (by decide) rfl ?_
      refine bw_iload_n 3 dX5_sentence_29 rfl rfl ?_
      refine bw_i2l dX5_sentence_30 ?_
      refine bw_lconst 0 dX5_sentence_31 (by decide) ?_
      refine bw_iload 0 dX5_sentence_32 rfl ?_
      refine bw_i2l dX5_sentence_34 ?_
      refine bw_lconst 1 dX5_sentence_35 (by decide) ?_
      refine bw_lsub dX5_sentence_36 ?_
      obtain ⟨q_16, hc_16, hf⟩ := bw_bind hf
      refine bw_callS [.long (((p1 : Int32).toInt64)), .long 0, .long ((((q_15.1 : Int32).toInt64) - 1))] [] [(ah, .inr (5, [.ref ah_all, .ref ah_kept, .ref ah_history, .int vh_historyLong, .ref ah_slots, .ref ah_isSaved, .ref ah_words, .int q_15.2.1, .ref ah_left, .int q_15.2.2.1, .ref ah_seen, .ref ah_text, .int vh_textLong, .int vh_spot, .ref ah_signs, .ref ah_pauses, .int vh_read])), (ah_all, .inl (g.2.1, 120, .inl vh_all)), (ah_words, .inl (g.2.1, 24, .inl q_15.2.2.2.1)), (ah_left, .inl (g.2.1, 24, .inl q_15.2.2.2.2))] (s_X5_in l g   (((p1 : Int32).toInt64)) 0 ((((q_15.1 : Int32).toInt64) - 1)) _ hc_16) rfl co_X5_in ini_X5 ml_X5_49 st_X5_in ar_X5_in ⟨Nat.le_of_ble_eq_true rfl, Nat.le_of_ble_eq_true rfl⟩ ⟨Nat.le_of_ble_eq_true rfl, Nat.le_of_ble_eq_true rfl⟩ (bw_pick1 4 [0, 1, 2, 3] rfl rfl (by decide)) (Nat.le_of_ble_eq_true rfl) dX5_sentence_37 (fun r w1 hq => ?_)
      obtain ⟨rfl, rfl⟩ := hq
      refine bw_perm (ws1 := [(ah, .inr (5, [.ref ah_all, .ref ah_kept, .ref ah_history, .int vh_historyLong, .ref ah_slots, .ref ah_isSaved, .ref ah_words, .int q_15.2.1, .ref ah_left, .int q_15.2.2.1, .ref ah_seen, .ref ah_text, .int vh_textLong, .int vh_spot, .ref ah_signs, .ref ah_pauses, .int vh_read])), (ah_all, .inl (g.2.1, 120, .inl vh_all)), (ah_words, .inl (g.2.1, 24, .inl q_15.2.2.2.1)), (ah_left, .inl (g.2.1, 24, .inl q_15.2.2.2.2))]) (bw_pick1 4 [0, 1, 2, 3] rfl rfl (by decide)) ?_
      refine bw_st (st1 := [.int q_16]) rfl ?_
      refine bw_if_ne 46 dX5_sentence_40 (by decide) (fun c_17 => ?_) (fun c_17 => ?_)
      · have hf := bw_neg c_17 hf
        refine bw_iload_n 4 dX5_sentence_46 rfl rfl ?_
        refine bw_iconst 3 dX5_sentence_47 (by decide) ?_
        refine bw_icmp_ne 68 dX5_sentence_48 (by decide) (fun c_18 => ?_) (fun c_18 => ?_)
        · have hf := bw_neg c_18 hf
          refine bw_aload_n 1 dX5_sentence_68 rfl rfl ?_
          refine bw_gf bkX5 0 8 (by decide) fl_X5_28 rfl rfl dX5_sentence_69 ?_
          refine bw_iconst 3 dX5_sentence_72 (by decide) ?_
          refine bw_iload_n 3 dX5_sentence_73 rfl rfl ?_
          refine bw_imul dX5_sentence_74 ?_
          refine bw_iload_n 4 dX5_sentence_75 rfl rfl ?_
          refine bw_iadd dX5_sentence_76 ?_
          obtain ⟨h_19, hf⟩ := bw_chk hf
          refine bw_iald 3 rfl h_19 dX5_sentence_77 ?_
          cases Option.some.inj hf
          exact bw_ret rfl rfl (Nat.le_of_ble_eq_true rfl) (Nat.le_of_ble_eq_true rfl) dX5_sentence_78 ⟨rfl, rfl⟩
        · have hf := bw_pos c_18 hf
          refine bw_iconst 1 dX5_sentence_51 (by decide) ?_
          refine bw_aload_n 1 dX5_sentence_52 rfl rfl ?_
          refine bw_gf bkX5 0 8 (by decide) fl_X5_28 rfl rfl dX5_sentence_53 ?_
          refine bw_iconst 3 dX5_sentence_56 (by decide) ?_
          refine bw_iload_n 3 dX5_sentence_57 rfl rfl ?_
          refine bw_imul dX5_sentence_58 ?_
          refine bw_iconst 1 dX5_sentence_59 (by decide) ?_
          refine bw_iadd dX5_sentence_60 ?_
          obtain ⟨h_20, hf⟩ := bw_chk hf
          refine bw_iald 3 rfl h_20 dX5_sentence_61 ?_
          refine bw_iconst 2 dX5_sentence_62 (by decide) ?_
          refine bw_irem dX5_sentence_63 (by decide) ?_
          refine bw_isub dX5_sentence_64 ?_
          refine bw_goto 78 dX5_sentence_65 (by decide) ?_
          cases Option.some.inj hf
          exact bw_ret rfl rfl (Nat.le_of_ble_eq_true rfl) (Nat.le_of_ble_eq_true rfl) dX5_sentence_78 ⟨rfl, rfl⟩
      · have hf := bw_pos c_17 hf
        refine bw_ldc ct_X5_125 dX5_sentence_43 ?_
        cases Option.some.inj hf
        exact bw_ret rfl rfl (Nat.le_of_ble_eq_true rfl) (Nat.le_of_ble_eq_true rfl) dX5_sentence_45 ⟨rfl, rfl⟩
    · have hf := bw_pos c_14 hf
      refine bw_ldc ct_X5_121 dX5_sentence_19 ?_
      cases Option.some.inj hf
      exact bw_ret rfl rfl (Nat.le_of_ble_eq_true rfl) (Nat.le_of_ble_eq_true rfl) dX5_sentence_21 ⟨rfl, rfl⟩
theorem ar_X5_favour : yX5_favour.cls ≠ "java/lang/invoke/MethodHandle" ∧ yX5_favour.cls ≠ "java/lang/invoke/VarHandle" ∧ (parseMethodDescriptor yX5_favour.desc).map (fun d => d.parameters.length) = some 2 := ⟨by decide, by decide, by decide +kernel⟩
def f_X5_favour (vh_all : Nat → Int32) (p0 : Int32) (p1 : Int32) : Option (Int32) := ((f_X5_isCourtier p0).bind fun q_7 => (if q_7 = 0 then some (-1000001) else ((f_X5_isCourtier p1).bind fun q_9 => (if q_9 = 0 then some (-1000001) else ((f_X5_at p0 p1).bind fun q_11 => (if bw_in q_11 120 then some (vh_all (Int32.toNatClampNeg q_11)) else none))))))
set_option maxHeartbeats 4000000 in
set_option maxRecDepth 100000 in
theorem s_X5_favour (l : Launch) (g : bwG) (ah ah_all ah_kept ah_history ah_slots ah_isSaved ah_words ah_left ah_seen ah_text ah_signs ah_pauses : Nat) (vh_historyLong : Int32) (vh_groups : Int32) (vh_leftLong : Int32) (vh_textLong : Int32) (vh_spot : Int32) (vh_read : Int32) (vh_all : Nat → Int32) (p0 : Int32) (p1 : Int32) (res : Int32) (hf : f_X5_favour vh_all p0 p1 = some res) : bwS l g yX5_favour cX5_favour 3 (some .int) ({ frames := 2, cells := 0, slots := 0, locals := 45 } : Room) [.ref ah, .int p0, .int p1] ([(ah, .inr (5, [.ref ah_all, .ref ah_kept, .ref ah_history, .int vh_historyLong, .ref ah_slots, .ref ah_isSaved, .ref ah_words, .int vh_groups, .ref ah_left, .int vh_leftLong, .ref ah_seen, .ref ah_text, .int vh_textLong, .int vh_spot, .ref ah_signs, .ref ah_pauses, .int vh_read])), (ah_all, .inl (g.2.1, 120, .inl vh_all))]) (fun r w => r = some (.int res) ∧ w = [(ah, .inr (5, [.ref ah_all, .ref ah_kept, .ref ah_history, .int vh_historyLong, .ref ah_slots, .ref ah_isSaved, .ref ah_words, .int vh_groups, .ref ah_left, .int vh_leftLong, .ref ah_seen, .ref ah_text, .int vh_textLong, .int vh_spot, .ref ah_signs, .ref ah_pauses, .int vh_read])), (ah_all, .inl (g.2.1, 120, .inl vh_all))]) := by
  refine bwS_of (by decide) (Nat.le_of_ble_eq_true rfl) ?_
  unfold f_X5_favour at hf
  show bwR l g cX5_favour 3 RX5 "favour" (some .int) ({ frames := 2, cells := 0, slots := 0, locals := 45 } : Room) bwT (bwZ g (fun r w => r = some (.int res) ∧ w = [(ah, .inr (5, [.ref ah_all, .ref ah_kept, .ref ah_history, .int vh_historyLong, .ref ah_slots, .ref ah_isSaved, .ref ah_words, .int vh_groups, .ref ah_left, .int vh_leftLong, .ref ah_seen, .ref ah_text, .int vh_textLong, .int vh_spot, .ref ah_signs, .ref ah_pauses, .int vh_read])), (ah_all, .inl (g.2.1, 120, .inl vh_all))]) 0 0) 0 [(0, .ref ah), (1, .int p0), (2, .int p1)] [] ([(ah, .inr (5, [.ref ah_all, .ref ah_kept, .ref ah_history, .int vh_historyLong, .ref ah_slots, .ref ah_isSaved, .ref ah_words, .int vh_groups, .ref ah_left, .int vh_leftLong, .ref ah_seen, .ref ah_text, .int vh_textLong, .int vh_spot, .ref ah_signs, .ref ah_pauses, .int vh_read])), (ah_all, .inl (g.2.1, 120, .inl vh_all))]) 0 0
  refine bw_iload_n 1 dX5_favour_0 rfl rfl ?_
  obtain ⟨q_7, hc_7, hf⟩ := bw_bind hf
  refine bw_callS [.int p0] [] [(ah, .inr (5, [.ref ah_all, .ref ah_kept, .ref ah_history, .int vh_historyLong, .ref ah_slots, .ref ah_isSaved, .ref ah_words, .int vh_groups, .ref ah_left, .int vh_leftLong, .ref ah_seen, .ref ah_text, .int vh_textLong, .int vh_spot, .ref ah_signs, .ref ah_pauses, .int vh_read])), (ah_all, .inl (g.2.1, 120, .inl vh_all))] (s_X5_isCourtier l g   p0 _ hc_7) rfl co_X5_isCourtier ini_X5 ml_X5_78 st_X5_isCourtier ar_X5_isCourtier ⟨Nat.le_of_ble_eq_true rfl, Nat.le_of_ble_eq_true rfl⟩ ⟨Nat.le_of_ble_eq_true rfl, Nat.le_of_ble_eq_true rfl⟩ (bw_pick1 2 [0, 1] rfl rfl (by decide)) (Nat.le_of_ble_eq_true rfl) dX5_favour_1 (fun r w1 hq => ?_)
  obtain ⟨rfl, rfl⟩ := hq
  refine bw_perm (ws1 := [(ah, .inr (5, [.ref ah_all, .ref ah_kept, .ref ah_history, .int vh_historyLong, .ref ah_slots, .ref ah_isSaved, .ref ah_words, .int vh_groups, .ref ah_left, .int vh_leftLong, .ref ah_seen, .ref ah_text, .int vh_textLong, .int vh_spot, .ref ah_signs, .ref ah_pauses, .int vh_read])), (ah_all, .inl (g.2.1, 120, .inl vh_all))]) (bw_pick1 2 [0, 1] rfl rfl (by decide)) ?_
  refine bw_st (st1 := [.int q_7]) rfl ?_
  refine bw_if_eq 27 dX5_favour_4 (by decide) (fun c_8 => ?_) (fun c_8 => ?_)
  · have hf := bw_pos c_8 hf
    refine bw_ldc ct_X5_125 dX5_favour_27 ?_
    cases Option.some.inj hf
    exact bw_ret rfl rfl (Nat.le_of_ble_eq_true rfl) (Nat.le_of_ble_eq_true rfl) dX5_favour_29 ⟨rfl, rfl⟩
  · have hf := bw_neg c_8 hf
    refine bw_iload_n 2 dX5_favour_7 rfl rfl ?_
    obtain ⟨q_9, hc_9, hf⟩ := bw_bind hf
    refine bw_callS [.int p1] [] [(ah, .inr (5, [.ref ah_all, .ref ah_kept, .ref ah_history, .int vh_historyLong, .ref ah_slots, .ref ah_isSaved, .ref ah_words, .int vh_groups, .ref ah_left, .int vh_leftLong, .ref ah_seen, .ref ah_text, .int vh_textLong, .int vh_spot, .ref ah_signs, .ref ah_pauses, .int vh_read])), (ah_all, .inl (g.2.1, 120, .inl vh_all))] (s_X5_isCourtier l g   p1 _ hc_9) rfl co_X5_isCourtier ini_X5 ml_X5_78 st_X5_isCourtier ar_X5_isCourtier ⟨Nat.le_of_ble_eq_true rfl, Nat.le_of_ble_eq_true rfl⟩ ⟨Nat.le_of_ble_eq_true rfl, Nat.le_of_ble_eq_true rfl⟩ (bw_pick1 2 [0, 1] rfl rfl (by decide)) (Nat.le_of_ble_eq_true rfl) dX5_favour_8 (fun r w1 hq => ?_)
    obtain ⟨rfl, rfl⟩ := hq
    refine bw_perm (ws1 := [(ah, .inr (5, [.ref ah_all, .ref ah_kept, .ref ah_history, .int vh_historyLong, .ref ah_slots, .ref ah_isSaved, .ref ah_words, .int vh_groups, .ref ah_left, .int vh_leftLong, .ref ah_seen, .ref ah_text, .int vh_textLong, .int vh_spot, .ref ah_signs, .ref ah_pauses, .int vh_read])), (ah_all, .inl (g.2.1, 120, .inl vh_all))]) (bw_pick1 2 [0, 1] rfl rfl (by decide)) ?_
    refine bw_st (st1 := [.int q_9]) rfl ?_
    refine bw_if_eq 27 dX5_favour_11 (by decide) (fun c_10 => ?_) (fun c_10 => ?_)
    · have hf := bw_pos c_10 hf
      refine bw_ldc ct_X5_125 dX5_favour_27 ?_
      cases Option.some.inj hf
      exact bw_ret rfl rfl (Nat.le_of_ble_eq_true rfl) (Nat.le_of_ble_eq_true rfl) dX5_favour_29 ⟨rfl, rfl⟩
    · have hf := bw_neg c_10 hf
      refine bw_aload_n 0 dX5_favour_14 rfl rfl ?_
      refine bw_gf bkX5 0 0 (by decide) fl_X5_7 rfl rfl dX5_favour_15 ?_
      refine bw_iload_n 1 dX5_favour_18 rfl rfl ?_
      refine bw_iload_n 2 dX5_favour_19 rfl rfl ?_
      obtain ⟨q_11, hc_11, hf⟩ := bw_bind hf
      refine bw_callS [.int p0, .int p1] [.ref ah_all] [(ah, .inr (5, [.ref ah_all, .ref ah_kept, .ref ah_history, .int vh_historyLong, .ref ah_slots, .ref ah_isSaved, .ref ah_words, .int vh_groups, .ref ah_left, .int vh_leftLong, .ref ah_seen, .ref ah_text, .int vh_textLong, .int vh_spot, .ref ah_signs, .ref ah_pauses, .int vh_read])), (ah_all, .inl (g.2.1, 120, .inl vh_all))] (s_X5_at l g   p0 p1 _ hc_11) rfl co_X5_at ini_X5 ml_X5_99 st_X5_at ar_X5_at ⟨Nat.le_of_ble_eq_true rfl, Nat.le_of_ble_eq_true rfl⟩ ⟨Nat.le_of_ble_eq_true rfl, Nat.le_of_ble_eq_true rfl⟩ (bw_pick1 2 [0, 1] rfl rfl (by decide)) (Nat.le_of_ble_eq_true rfl) dX5_favour_20 (fun r w1 hq => ?_)
      obtain ⟨rfl, rfl⟩ := hq
      refine bw_perm (ws1 := [(ah, .inr (5, [.ref ah_all, .ref ah_kept, .ref ah_history, .int vh_historyLong, .ref ah_slots, .ref ah_isSaved, .ref ah_words, .int vh_groups, .ref ah_left, .int vh_leftLong, .ref ah_seen, .ref ah_text, .int vh_textLong, .int vh_spot, .ref ah_signs, .ref ah_pauses, .int vh_read])), (ah_all, .inl (g.2.1, 120, .inl vh_all))]) (bw_pick1 2 [0, 1] rfl rfl (by decide)) ?_
      refine bw_st (st1 := [.int q_11, .ref ah_all]) rfl ?_
      obtain ⟨h_12, hf⟩ := bw_chk hf
      refine bw_iald 1 rfl h_12 dX5_favour_23 ?_
      refine bw_goto 29 dX5_favour_24 (by decide) ?_
      cases Option.some.inj hf
      exact bw_ret rfl rfl (Nat.le_of_ble_eq_true rfl) (Nat.le_of_ble_eq_true rfl) dX5_favour_29 ⟨rfl, rfl⟩
def f_X5_seesOthers_L51 : Nat → (Int32) → (Int32) → (Nat → Int32) → (Nat → Int32) → (Nat → Int32) → (Nat → Int32) → (Int32) → (Int32) → (Int32) → (Int32) → Option (Int32 × (Int32) × (Int32) × (Nat → Int32) × (Nat → Int32) × (Nat → Int32))
  | 0, _, _, _, _, _, _, _, _, _, _ => none
  | fu + 1, vh_groups, vh_leftLong, vh_all, vh_words, vh_left, vh_seen, x1, x2, x3, x4 => (if (3 * x2) ≤ x4 then (if bw_nb x3 then some (x3, vh_groups, vh_leftLong, vh_words, vh_left, vh_seen) else none) else (if x3 = 0 then (if bw_in x4 24 then (if bw_in x4 24 then (if (vh_seen (Int32.toNatClampNeg x4)) = (vh_left (Int32.toNatClampNeg x4)) then (f_X5_seesOthers_L51 fu vh_groups vh_leftLong vh_all vh_words vh_left vh_seen x1 x2 0 ((x4 + 1))) else (f_X5_seesOthers_L51 fu vh_groups vh_leftLong vh_all vh_words vh_left vh_seen x1 x2 1 ((x4 + 1)))) else none) else none) else (if bw_nb x3 then some (x3, vh_groups, vh_leftLong, vh_words, vh_left, vh_seen) else none)))
set_option maxHeartbeats 4000000 in
set_option maxRecDepth 100000 in
theorem s_X5_seesOthers_L51 (l : Launch) (g : bwG) (ah ah_all ah_kept ah_history ah_slots ah_isSaved ah_words ah_left ah_seen ah_text ah_signs ah_pauses : Nat) (fu : Nat) : ∀ (vh_historyLong : Int32) (vh_groups : Int32) (vh_leftLong : Int32) (vh_textLong : Int32) (vh_spot : Int32) (vh_read : Int32) (vh_all : Nat → Int32) (vh_words : Nat → Int32) (vh_left : Nat → Int32) (vh_seen : Nat → Int32) (x1 : Int32) (x2 : Int32) (x3 : Int32) (x4 : Int32) (res : Int32 × (Int32) × (Int32) × (Nat → Int32) × (Nat → Int32) × (Nat → Int32)), f_X5_seesOthers_L51 fu vh_groups vh_leftLong vh_all vh_words vh_left vh_seen x1 x2 x3 x4 = some res → bwR l g cX5_seesOthers 5 RX5 "seesOthers" (some .boolean) ({ frames := 5, cells := 0, slots := 0, locals := 110 } : Room) bwT (bwZ g (fun r w => r = some (.int res.1) ∧ w = [(ah, .inr (5, [.ref ah_all, .ref ah_kept, .ref ah_history, .int vh_historyLong, .ref ah_slots, .ref ah_isSaved, .ref ah_words, .int res.2.1, .ref ah_left, .int res.2.2.1, .ref ah_seen, .ref ah_text, .int vh_textLong, .int vh_spot, .ref ah_signs, .ref ah_pauses, .int vh_read])), (ah_all, .inl (g.2.1, 120, .inl vh_all)), (ah_words, .inl (g.2.1, 24, .inl res.2.2.2.1)), (ah_left, .inl (g.2.1, 24, .inl res.2.2.2.2.1)), (ah_seen, .inl (g.2.1, 24, .inl res.2.2.2.2.2))]) 0 0) 51 [(0, .ref ah), (1, .int x1), (2, .int x2), (3, .int x3), (4, .int x4)] [] ([(ah, .inr (5, [.ref ah_all, .ref ah_kept, .ref ah_history, .int vh_historyLong, .ref ah_slots, .ref ah_isSaved, .ref ah_words, .int vh_groups, .ref ah_left, .int vh_leftLong, .ref ah_seen, .ref ah_text, .int vh_textLong, .int vh_spot, .ref ah_signs, .ref ah_pauses, .int vh_read])), (ah_all, .inl (g.2.1, 120, .inl vh_all)), (ah_words, .inl (g.2.1, 24, .inl vh_words)), (ah_left, .inl (g.2.1, 24, .inl vh_left)), (ah_seen, .inl (g.2.1, 24, .inl vh_seen))]) 0 0 := by
  induction fu with
  | zero => intro vh_historyLong vh_groups vh_leftLong vh_textLong vh_spot vh_read vh_all vh_words vh_left vh_seen x1 x2 x3 x4 res hf; exact absurd hf (by intro h; cases h)
  | succ fu ih =>
    intro vh_historyLong vh_groups vh_leftLong vh_textLong vh_spot vh_read vh_all vh_words vh_left vh_seen x1 x2 x3 x4 res hf
    rw [f_X5_seesOthers_L51] at hf
    refine bw_iload 4 dX5_seesOthers_51 rfl ?_
    refine bw_iconst 3 dX5_seesOthers_53 (by decide) ?_
    refine bw_iload_n 2 dX5_seesOthers_54 rfl rfl ?_
    refine bw_imul dX5_seesOthers_55 ?_
    refine bw_icmp_ge 92 dX5_seesOthers_56 (by decide) (fun c_14 => ?_) (fun c_14 => ?_)
    · have hf := bw_pos c_14 hf
      refine bw_iload_n 3 dX5_seesOthers_92 rfl rfl ?_
      obtain ⟨h_15, hf⟩ := bw_chk hf
      cases Option.some.inj hf
      exact bw_ret rfl (bw_nbp h_15) (Nat.le_of_ble_eq_true rfl) (Nat.le_of_ble_eq_true rfl) dX5_seesOthers_93 ⟨rfl, rfl⟩
    · have hf := bw_neg c_14 hf
      refine bw_iload_n 3 dX5_seesOthers_59 rfl rfl ?_
      refine bw_if_ne 92 dX5_seesOthers_60 (by decide) (fun c_16 => ?_) (fun c_16 => ?_)
      · have hf := bw_neg c_16 hf
        refine bw_iload_n 3 dX5_seesOthers_92 rfl rfl ?_
        obtain ⟨h_17, hf⟩ := bw_chk hf
        cases Option.some.inj hf
        exact bw_ret rfl (bw_nbp h_17) (Nat.le_of_ble_eq_true rfl) (Nat.le_of_ble_eq_true rfl) dX5_seesOthers_93 ⟨rfl, rfl⟩
      · have hf := bw_pos c_16 hf
        refine bw_aload_n 0 dX5_seesOthers_63 rfl rfl ?_
        refine bw_gf bkX5 0 10 (by decide) fl_X5_31 rfl rfl dX5_seesOthers_64 ?_
        refine bw_iload 4 dX5_seesOthers_67 rfl ?_
        obtain ⟨h_18, hf⟩ := bw_chk hf
        refine bw_iald 4 rfl h_18 dX5_seesOthers_69 ?_
        refine bw_aload_n 0 dX5_seesOthers_70 rfl rfl ?_
        refine bw_gf bkX5 0 8 (by decide) fl_X5_28 rfl rfl dX5_seesOthers_71 ?_
        refine bw_iload 4 dX5_seesOthers_74 rfl ?_
        obtain ⟨h_19, hf⟩ := bw_chk hf
        refine bw_iald 3 rfl h_19 dX5_seesOthers_76 ?_
        refine bw_icmp_eq 84 dX5_seesOthers_77 (by decide) (fun c_20 => ?_) (fun c_20 => ?_)
        · have hf := bw_pos c_20 hf
          refine bw_iconst 0 dX5_seesOthers_84 (by decide) ?_
          refine bw_istore_n [(3, .int 0), (0, .ref ah), (1, .int x1), (2, .int x2), (4, .int x4)] dX5_seesOthers_85 rfl (by decide) rfl ?_
          refine bw_iinc 4 (x4 + 1) [(4, .int ((x4 + 1))), (3, .int 0), (0, .ref ah), (1, .int x1), (2, .int x2)] dX5_seesOthers_86 rfl rfl (by decide) rfl ?_
          refine bw_goto 51 dX5_seesOthers_89 (by decide) ?_
          refine bw_lv [2, 3, 4, 1, 0] rfl ?_
          exact ih vh_historyLong vh_groups vh_leftLong vh_textLong vh_spot vh_read vh_all vh_words vh_left vh_seen x1 x2 0 ((x4 + 1)) _ hf
        · have hf := bw_neg c_20 hf
          refine bw_iconst 1 dX5_seesOthers_80 (by decide) ?_
          refine bw_goto 85 dX5_seesOthers_81 (by decide) ?_
          refine bw_istore_n [(3, .int 1), (0, .ref ah), (1, .int x1), (2, .int x2), (4, .int x4)] dX5_seesOthers_85 rfl (by decide) rfl ?_
          refine bw_iinc 4 (x4 + 1) [(4, .int ((x4 + 1))), (3, .int 1), (0, .ref ah), (1, .int x1), (2, .int x2)] dX5_seesOthers_86 rfl rfl (by decide) rfl ?_
          refine bw_goto 51 dX5_seesOthers_89 (by decide) ?_
          refine bw_lv [2, 3, 4, 1, 0] rfl ?_
          exact ih vh_historyLong vh_groups vh_leftLong vh_textLong vh_spot vh_read vh_all vh_words vh_left vh_seen x1 x2 1 ((x4 + 1)) _ hf
def f_X5_seesOthers_L8 : Nat → (Int32) → (Int32) → (Nat → Int32) → (Nat → Int32) → (Nat → Int32) → (Nat → Int32) → (Int32) → (Int32) → (Int32) → Option (Int32 × (Int32) × (Int32) × (Nat → Int32) × (Nat → Int32) × (Nat → Int32))
  | 0, _, _, _, _, _, _, _, _, _ => none
  | fu + 1, vh_groups, vh_leftLong, vh_all, vh_words, vh_left, vh_seen, x1, x2, x3 => (if (3 * x2) ≤ x3 then ((f_X5_sentences vh_groups vh_leftLong vh_all vh_words vh_left x1).bind fun q_22 => (if q_22.1 = x2 then (f_X5_seesOthers_L51 bw_F q_22.2.1 q_22.2.2.1 vh_all q_22.2.2.2.1 q_22.2.2.2.2 vh_seen x1 x2 0 0) else (f_X5_seesOthers_L51 bw_F q_22.2.1 q_22.2.2.1 vh_all q_22.2.2.2.1 q_22.2.2.2.2 vh_seen x1 x2 1 0))) else (if bw_in x3 24 then (if bw_in x3 24 then (f_X5_seesOthers_L8 fu vh_groups vh_leftLong vh_all vh_words vh_left ((upd vh_seen (Int32.toNatClampNeg x3) ((vh_left (Int32.toNatClampNeg x3))))) x1 x2 ((x3 + 1))) else none) else none))
set_option maxHeartbeats 4000000 in
set_option maxRecDepth 100000 in
theorem s_X5_seesOthers_L8 (l : Launch) (g : bwG) (ah ah_all ah_kept ah_history ah_slots ah_isSaved ah_words ah_left ah_seen ah_text ah_signs ah_pauses : Nat) (fu : Nat) : ∀ (vh_historyLong : Int32) (vh_groups : Int32) (vh_leftLong : Int32) (vh_textLong : Int32) (vh_spot : Int32) (vh_read : Int32) (vh_all : Nat → Int32) (vh_words : Nat → Int32) (vh_left : Nat → Int32) (vh_seen : Nat → Int32) (x1 : Int32) (x2 : Int32) (x3 : Int32) (res : Int32 × (Int32) × (Int32) × (Nat → Int32) × (Nat → Int32) × (Nat → Int32)), f_X5_seesOthers_L8 fu vh_groups vh_leftLong vh_all vh_words vh_left vh_seen x1 x2 x3 = some res → bwR l g cX5_seesOthers 5 RX5 "seesOthers" (some .boolean) ({ frames := 5, cells := 0, slots := 0, locals := 110 } : Room) bwT (bwZ g (fun r w => r = some (.int res.1) ∧ w = [(ah, .inr (5, [.ref ah_all, .ref ah_kept, .ref ah_history, .int vh_historyLong, .ref ah_slots, .ref ah_isSaved, .ref ah_words, .int res.2.1, .ref ah_left, .int res.2.2.1, .ref ah_seen, .ref ah_text, .int vh_textLong, .int vh_spot, .ref ah_signs, .ref ah_pauses, .int vh_read])), (ah_all, .inl (g.2.1, 120, .inl vh_all)), (ah_words, .inl (g.2.1, 24, .inl res.2.2.2.1)), (ah_left, .inl (g.2.1, 24, .inl res.2.2.2.2.1)), (ah_seen, .inl (g.2.1, 24, .inl res.2.2.2.2.2))]) 0 0) 8 [(0, .ref ah), (1, .int x1), (2, .int x2), (3, .int x3)] [] ([(ah, .inr (5, [.ref ah_all, .ref ah_kept, .ref ah_history, .int vh_historyLong, .ref ah_slots, .ref ah_isSaved, .ref ah_words, .int vh_groups, .ref ah_left, .int vh_leftLong, .ref ah_seen, .ref ah_text, .int vh_textLong, .int vh_spot, .ref ah_signs, .ref ah_pauses, .int vh_read])), (ah_all, .inl (g.2.1, 120, .inl vh_all)), (ah_words, .inl (g.2.1, 24, .inl vh_words)), (ah_left, .inl (g.2.1, 24, .inl vh_left)), (ah_seen, .inl (g.2.1, 24, .inl vh_seen))]) 0 0 := by
  induction fu with
  | zero => intro vh_historyLong vh_groups vh_leftLong vh_textLong vh_spot vh_read vh_all vh_words vh_left vh_seen x1 x2 x3 res hf; exact absurd hf (by intro h; cases h)
  | succ fu ih =>
    intro vh_historyLong vh_groups vh_leftLong vh_textLong vh_spot vh_read vh_all vh_words vh_left vh_seen x1 x2 x3 res hf
    rw [f_X5_seesOthers_L8] at hf
    refine bw_iload_n 3 dX5_seesOthers_8 rfl rfl ?_
    refine bw_iconst 3 dX5_seesOthers_9 (by decide) ?_
    refine bw_iload_n 2 dX5_seesOthers_10 rfl rfl ?_
    refine bw_imul dX5_seesOthers_11 ?_
    refine bw_icmp_ge 33 dX5_seesOthers_12 (by decide) (fun c_21 => ?_) (fun c_21 => ?_)
    · have hf := bw_pos c_21 hf
      refine bw_aload_n 0 dX5_seesOthers_33 rfl rfl ?_
      refine bw_iload_n 1 dX5_seesOthers_34 rfl rfl ?_
      obtain ⟨q_22, hc_22, hf⟩ := bw_bind hf
      refine bw_callV [.int x1] [] [(ah_seen, .inl (g.2.1, 24, .inl vh_seen))] 0 5 (s_X5_sentences l g ah ah_all ah_kept ah_history ah_slots ah_isSaved ah_words ah_left ah_seen ah_text ah_signs ah_pauses vh_historyLong vh_groups vh_leftLong vh_textLong vh_spot vh_read vh_all vh_words vh_left x1 _ hc_22) rfl co_X5_sentences ini_X5 ml_X5_102 im_X5_sentences se_X5_sentences ar_X5_sentences ⟨Nat.le_of_ble_eq_true rfl, Nat.le_of_ble_eq_true rfl⟩ ⟨Nat.le_of_ble_eq_true rfl, Nat.le_of_ble_eq_true rfl⟩ rfl rfl (bw_pick1 5 [0, 1, 2, 3, 4] rfl rfl (by decide)) (Nat.le_of_ble_eq_true rfl) dX5_seesOthers_35 (fun r w1 hq => ?_)
      obtain ⟨rfl, rfl⟩ := hq
      refine bw_perm (ws1 := [(ah, .inr (5, [.ref ah_all, .ref ah_kept, .ref ah_history, .int vh_historyLong, .ref ah_slots, .ref ah_isSaved, .ref ah_words, .int q_22.2.1, .ref ah_left, .int q_22.2.2.1, .ref ah_seen, .ref ah_text, .int vh_textLong, .int vh_spot, .ref ah_signs, .ref ah_pauses, .int vh_read])), (ah_all, .inl (g.2.1, 120, .inl vh_all)), (ah_words, .inl (g.2.1, 24, .inl q_22.2.2.2.1)), (ah_left, .inl (g.2.1, 24, .inl q_22.2.2.2.2)), (ah_seen, .inl (g.2.1, 24, .inl vh_seen))]) (bw_pick1 5 [1, 2, 3, 4, 0] rfl rfl (by decide)) ?_
      refine bw_st (st1 := [.int q_22.1]) rfl ?_
      refine bw_iload_n 2 dX5_seesOthers_38 rfl rfl ?_
      refine bw_icmp_eq 46 dX5_seesOthers_39 (by decide) (fun c_23 => ?_) (fun c_23 => ?_)
      · have hf := bw_pos c_23 hf
        refine bw_iconst 0 dX5_seesOthers_46 (by decide) ?_
        refine bw_istore_n [(3, .int 0), (0, .ref ah), (1, .int x1), (2, .int x2)] dX5_seesOthers_47 rfl (by decide) rfl ?_
        refine bw_iconst 0 dX5_seesOthers_48 (by decide) ?_
        refine bw_istore [(4, .int 0), (3, .int 0), (0, .ref ah), (1, .int x1), (2, .int x2)] dX5_seesOthers_49 (by decide) rfl ?_
        refine bw_lv [2, 3, 4, 1, 0] rfl ?_
        exact s_X5_seesOthers_L51 l g ah ah_all ah_kept ah_history ah_slots ah_isSaved ah_words ah_left ah_seen ah_text ah_signs ah_pauses bw_F vh_historyLong q_22.2.1 q_22.2.2.1 vh_textLong vh_spot vh_read vh_all q_22.2.2.2.1 q_22.2.2.2.2 vh_seen x1 x2 0 0 _ hf
      · have hf := bw_neg c_23 hf
        refine bw_iconst 1 dX5_seesOthers_42 (by decide) ?_
        refine bw_goto 47 dX5_seesOthers_43 (by decide) ?_
        refine bw_istore_n [(3, .int 1), (0, .ref ah), (1, .int x1), (2, .int x2)] dX5_seesOthers_47 rfl (by decide) rfl ?_
        refine bw_iconst 0 dX5_seesOthers_48 (by decide) ?_
        refine bw_istore [(4, .int 0), (3, .int 1), (0, .ref ah), (1, .int x1), (2, .int x2)] dX5_seesOthers_49 (by decide) rfl ?_
        refine bw_lv [2, 3, 4, 1, 0] rfl ?_
        exact s_X5_seesOthers_L51 l g ah ah_all ah_kept ah_history ah_slots ah_isSaved ah_words ah_left ah_seen ah_text ah_signs ah_pauses bw_F vh_historyLong q_22.2.1 q_22.2.2.1 vh_textLong vh_spot vh_read vh_all q_22.2.2.2.1 q_22.2.2.2.2 vh_seen x1 x2 1 0 _ hf
    · have hf := bw_neg c_21 hf
      refine bw_aload_n 0 dX5_seesOthers_15 rfl rfl ?_
      refine bw_gf bkX5 0 10 (by decide) fl_X5_31 rfl rfl dX5_seesOthers_16 ?_
      refine bw_iload_n 3 dX5_seesOthers_19 rfl rfl ?_
      refine bw_aload_n 0 dX5_seesOthers_20 rfl rfl ?_
      refine bw_gf bkX5 0 8 (by decide) fl_X5_28 rfl rfl dX5_seesOthers_21 ?_
      refine bw_iload_n 3 dX5_seesOthers_24 rfl rfl ?_
      obtain ⟨h_24, hf⟩ := bw_chk hf
      refine bw_iald 3 rfl h_24 dX5_seesOthers_25 ?_
      obtain ⟨h_25, hf⟩ := bw_chk hf
      refine bw_iast 4 ([(ah, .inr (5, [.ref ah_all, .ref ah_kept, .ref ah_history, .int vh_historyLong, .ref ah_slots, .ref ah_isSaved, .ref ah_words, .int vh_groups, .ref ah_left, .int vh_leftLong, .ref ah_seen, .ref ah_text, .int vh_textLong, .int vh_spot, .ref ah_signs, .ref ah_pauses, .int vh_read])), (ah_all, .inl (g.2.1, 120, .inl vh_all)), (ah_words, .inl (g.2.1, 24, .inl vh_words)), (ah_left, .inl (g.2.1, 24, .inl vh_left)), (ah_seen, .inl (g.2.1, 24, .inl ((upd vh_seen (Int32.toNatClampNeg x3) ((vh_left (Int32.toNatClampNeg x3)))))))]) rfl h_25 rfl dX5_seesOthers_26 ?_
      refine bw_iinc 3 (x3 + 1) [(3, .int ((x3 + 1))), (0, .ref ah), (1, .int x1), (2, .int x2)] dX5_seesOthers_27 rfl rfl (by decide) rfl ?_
      refine bw_goto 8 dX5_seesOthers_30 (by decide) ?_
      refine bw_lv [1, 2, 3, 0] rfl ?_
      exact ih vh_historyLong vh_groups vh_leftLong vh_textLong vh_spot vh_read vh_all vh_words vh_left ((upd vh_seen (Int32.toNatClampNeg x3) ((vh_left (Int32.toNatClampNeg x3))))) x1 x2 ((x3 + 1)) _ hf
theorem ar_X5_seesOthers : yX5_seesOthers.cls ≠ "java/lang/invoke/MethodHandle" ∧ yX5_seesOthers.cls ≠ "java/lang/invoke/VarHandle" ∧ (parseMethodDescriptor yX5_seesOthers.desc).map (fun d => d.parameters.length) = some 1 := ⟨by decide, by decide, by decide +kernel⟩
def f_X5_seesOthers (vh_groups : Int32) (vh_leftLong : Int32) (vh_all : Nat → Int32) (vh_words : Nat → Int32) (vh_left : Nat → Int32) (vh_seen : Nat → Int32) (p0 : Int32) : Option (Int32 × (Int32) × (Int32) × (Nat → Int32) × (Nat → Int32) × (Nat → Int32)) := ((f_X5_sentences vh_groups vh_leftLong vh_all vh_words vh_left 0).bind fun q_26 => (f_X5_seesOthers_L8 bw_F q_26.2.1 q_26.2.2.1 vh_all q_26.2.2.2.1 q_26.2.2.2.2 vh_seen p0 q_26.1 0))
set_option maxHeartbeats 4000000 in
set_option maxRecDepth 100000 in
theorem s_X5_seesOthers (l : Launch) (g : bwG) (ah ah_all ah_kept ah_history ah_slots ah_isSaved ah_words ah_left ah_seen ah_text ah_signs ah_pauses : Nat) (vh_historyLong : Int32) (vh_groups : Int32) (vh_leftLong : Int32) (vh_textLong : Int32) (vh_spot : Int32) (vh_read : Int32) (vh_all : Nat → Int32) (vh_words : Nat → Int32) (vh_left : Nat → Int32) (vh_seen : Nat → Int32) (p0 : Int32) (res : Int32 × (Int32) × (Int32) × (Nat → Int32) × (Nat → Int32) × (Nat → Int32)) (hf : f_X5_seesOthers vh_groups vh_leftLong vh_all vh_words vh_left vh_seen p0 = some res) : bwS l g yX5_seesOthers cX5_seesOthers 5 (some .boolean) ({ frames := 5, cells := 0, slots := 0, locals := 110 } : Room) [.ref ah, .int p0] ([(ah, .inr (5, [.ref ah_all, .ref ah_kept, .ref ah_history, .int vh_historyLong, .ref ah_slots, .ref ah_isSaved, .ref ah_words, .int vh_groups, .ref ah_left, .int vh_leftLong, .ref ah_seen, .ref ah_text, .int vh_textLong, .int vh_spot, .ref ah_signs, .ref ah_pauses, .int vh_read])), (ah_all, .inl (g.2.1, 120, .inl vh_all)), (ah_words, .inl (g.2.1, 24, .inl vh_words)), (ah_left, .inl (g.2.1, 24, .inl vh_left)), (ah_seen, .inl (g.2.1, 24, .inl vh_seen))]) (fun r w => r = some (.int res.1) ∧ w = [(ah, .inr (5, [.ref ah_all, .ref ah_kept, .ref ah_history, .int vh_historyLong, .ref ah_slots, .ref ah_isSaved, .ref ah_words, .int res.2.1, .ref ah_left, .int res.2.2.1, .ref ah_seen, .ref ah_text, .int vh_textLong, .int vh_spot, .ref ah_signs, .ref ah_pauses, .int vh_read])), (ah_all, .inl (g.2.1, 120, .inl vh_all)), (ah_words, .inl (g.2.1, 24, .inl res.2.2.2.1)), (ah_left, .inl (g.2.1, 24, .inl res.2.2.2.2.1)), (ah_seen, .inl (g.2.1, 24, .inl res.2.2.2.2.2))]) := by
  refine bwS_of (by decide) (Nat.le_of_ble_eq_true rfl) ?_
  unfold f_X5_seesOthers at hf
  show bwR l g cX5_seesOthers 5 RX5 "seesOthers" (some .boolean) ({ frames := 5, cells := 0, slots := 0, locals := 110 } : Room) bwT (bwZ g (fun r w => r = some (.int res.1) ∧ w = [(ah, .inr (5, [.ref ah_all, .ref ah_kept, .ref ah_history, .int vh_historyLong, .ref ah_slots, .ref ah_isSaved, .ref ah_words, .int res.2.1, .ref ah_left, .int res.2.2.1, .ref ah_seen, .ref ah_text, .int vh_textLong, .int vh_spot, .ref ah_signs, .ref ah_pauses, .int vh_read])), (ah_all, .inl (g.2.1, 120, .inl vh_all)), (ah_words, .inl (g.2.1, 24, .inl res.2.2.2.1)), (ah_left, .inl (g.2.1, 24, .inl res.2.2.2.2.1)), (ah_seen, .inl (g.2.1, 24, .inl res.2.2.2.2.2))]) 0 0) 0 [(0, .ref ah), (1, .int p0)] [] ([(ah, .inr (5, [.ref ah_all, .ref ah_kept, .ref ah_history, .int vh_historyLong, .ref ah_slots, .ref ah_isSaved, .ref ah_words, .int vh_groups, .ref ah_left, .int vh_leftLong, .ref ah_seen, .ref ah_text, .int vh_textLong, .int vh_spot, .ref ah_signs, .ref ah_pauses, .int vh_read])), (ah_all, .inl (g.2.1, 120, .inl vh_all)), (ah_words, .inl (g.2.1, 24, .inl vh_words)), (ah_left, .inl (g.2.1, 24, .inl vh_left)), (ah_seen, .inl (g.2.1, 24, .inl vh_seen))]) 0 0
  refine bw_aload_n 0 dX5_seesOthers_0 rfl rfl ?_
  refine bw_iconst 0 dX5_seesOthers_1 (by decide) ?_
  obtain ⟨q_26, hc_26, hf⟩ := bw_bind hf
  refine bw_callV [.int 0] [] [(ah_seen, .inl (g.2.1, 24, .inl vh_seen))] 0 5 (s_X5_sentences l g ah ah_all ah_kept ah_history ah_slots ah_isSaved ah_words ah_left ah_seen ah_text ah_signs ah_pauses vh_historyLong vh_groups vh_leftLong vh_textLong vh_spot vh_read vh_all vh_words vh_left 0 _ hc_26) rfl co_X5_sentences ini_X5 ml_X5_102 im_X5_sentences se_X5_sentences ar_X5_sentences ⟨Nat.le_of_ble_eq_true rfl, Nat.le_of_ble_eq_true rfl⟩ ⟨Nat.le_of_ble_eq_true rfl, Nat.le_of_ble_eq_true rfl⟩ rfl rfl (bw_pick1 5 [0, 1, 2, 3, 4] rfl rfl (by decide)) (Nat.le_of_ble_eq_true rfl) dX5_seesOthers_2 (fun r w1 hq => ?_)
  obtain ⟨rfl, rfl⟩ := hq
  refine bw_perm (ws1 := [(ah, .inr (5, [.ref ah_all, .ref ah_kept, .ref ah_history, .int vh_historyLong, .ref ah_slots, .ref ah_isSaved, .ref ah_words, .int q_26.2.1, .ref ah_left, .int q_26.2.2.1, .ref ah_seen, .ref ah_text, .int vh_textLong, .int vh_spot, .ref ah_signs, .ref ah_pauses, .int vh_read])), (ah_all, .inl (g.2.1, 120, .inl vh_all)), (ah_words, .inl (g.2.1, 24, .inl q_26.2.2.2.1)), (ah_left, .inl (g.2.1, 24, .inl q_26.2.2.2.2)), (ah_seen, .inl (g.2.1, 24, .inl vh_seen))]) (bw_pick1 5 [1, 2, 3, 4, 0] rfl rfl (by decide)) ?_
  refine bw_st (st1 := [.int q_26.1]) rfl ?_
  refine bw_istore_n [(2, .int q_26.1), (0, .ref ah), (1, .int p0)] dX5_seesOthers_5 rfl (by decide) rfl ?_
  refine bw_iconst 0 dX5_seesOthers_6 (by decide) ?_
  refine bw_istore_n [(3, .int 0), (2, .int q_26.1), (0, .ref ah), (1, .int p0)] dX5_seesOthers_7 rfl (by decide) rfl ?_
  refine bw_lv [2, 3, 1, 0] rfl ?_
  exact s_X5_seesOthers_L8 l g ah ah_all ah_kept ah_history ah_slots ah_isSaved ah_words ah_left ah_seen ah_text ah_signs ah_pauses bw_F vh_historyLong q_26.2.1 q_26.2.2.1 vh_textLong vh_spot vh_read vh_all q_26.2.2.2.1 q_26.2.2.2.2 vh_seen p0 q_26.1 0 _ hf
def f_X5_favours_L5 : Nat → (Nat → Int32) → (Int32) → (Int32) → (Int32) → (Int32) → Option (Int32)
  | 0, _, _, _, _, _ => none
  | fu + 1, vh_all, x1, x2, x3, x4 => (if 36 ≤ x4 then some x3 else (if x1 < 0 then (if x2 < 0 then (if bw_in ((12 + x4)) 120 then (f_X5_favours_L5 fu vh_all x1 x2 ((x3 + (vh_all (Int32.toNatClampNeg ((12 + x4)))))) ((x4 + 1))) else none) else (if (x4 / 6) = x2 then (if bw_in ((12 + x4)) 120 then (f_X5_favours_L5 fu vh_all x1 x2 ((x3 + (vh_all (Int32.toNatClampNeg ((12 + x4)))))) ((x4 + 1))) else none) else (f_X5_favours_L5 fu vh_all x1 x2 ((x3 + 0)) ((x4 + 1))))) else (if (x4 - x4 / 6 * 6) = x1 then (if x2 < 0 then (if bw_in ((12 + x4)) 120 then (f_X5_favours_L5 fu vh_all x1 x2 ((x3 + (vh_all (Int32.toNatClampNeg ((12 + x4)))))) ((x4 + 1))) else none) else (if (x4 / 6) = x2 then (if bw_in ((12 + x4)) 120 then (f_X5_favours_L5 fu vh_all x1 x2 ((x3 + (vh_all (Int32.toNatClampNeg ((12 + x4)))))) ((x4 + 1))) else none) else (f_X5_favours_L5 fu vh_all x1 x2 ((x3 + 0)) ((x4 + 1))))) else (f_X5_favours_L5 fu vh_all x1 x2 ((x3 + 0)) ((x4 + 1))))))
set_option maxHeartbeats 4000000 in
set_option maxRecDepth 100000 in
theorem s_X5_favours_L5 (l : Launch) (g : bwG) (ah ah_all ah_kept ah_history ah_slots ah_isSaved ah_words ah_left ah_seen ah_text ah_signs ah_pauses : Nat) (fu : Nat) : ∀ (vh_historyLong : Int32) (vh_groups : Int32) (vh_leftLong : Int32) (vh_textLong : Int32) (vh_spot : Int32) (vh_read : Int32) (vh_all : Nat → Int32) (x1 : Int32) (x2 : Int32) (x3 : Int32) (x4 : Int32) (res : Int32), f_X5_favours_L5 fu vh_all x1 x2 x3 x4 = some res → bwR l g cX5_favours 5 RX5 "favours" (some .int) ({ frames := 0, cells := 0, slots := 0, locals := 0 } : Room) bwT (bwZ g (fun r w => r = some (.int res) ∧ w = [(ah, .inr (5, [.ref ah_all, .ref ah_kept, .ref ah_history, .int vh_historyLong, .ref ah_slots, .ref ah_isSaved, .ref ah_words, .int vh_groups, .ref ah_left, .int vh_leftLong, .ref ah_seen, .ref ah_text, .int vh_textLong, .int vh_spot, .ref ah_signs, .ref ah_pauses, .int vh_read])), (ah_all, .inl (g.2.1, 120, .inl vh_all))]) 0 0) 5 [(0, .ref ah), (1, .int x1), (2, .int x2), (3, .int x3), (4, .int x4)] [] ([(ah, .inr (5, [.ref ah_all, .ref ah_kept, .ref ah_history, .int vh_historyLong, .ref ah_slots, .ref ah_isSaved, .ref ah_words, .int vh_groups, .ref ah_left, .int vh_leftLong, .ref ah_seen, .ref ah_text, .int vh_textLong, .int vh_spot, .ref ah_signs, .ref ah_pauses, .int vh_read])), (ah_all, .inl (g.2.1, 120, .inl vh_all))]) 0 0 := by
  induction fu with
  | zero => intro vh_historyLong vh_groups vh_leftLong vh_textLong vh_spot vh_read vh_all x1 x2 x3 x4 res hf; exact absurd hf (by intro h; cases h)
  | succ fu ih =>
    intro vh_historyLong vh_groups vh_leftLong vh_textLong vh_spot vh_read vh_all x1 x2 x3 x4 res hf
    rw [f_X5_favours_L5] at hf
    refine bw_iload 4 dX5_favours_5 rfl ?_
    refine bw_bipush 36 dX5_favours_7 (by decide) ?_
    refine bw_icmp_ge 61 dX5_favours_9 (by decide) (fun c_12 => ?_) (fun c_12 => ?_)
    · have hf := bw_pos c_12 hf
      refine bw_iload_n 3 dX5_favours_61 rfl rfl ?_
      cases Option.some.inj hf
      exact bw_ret rfl rfl (Nat.le_of_ble_eq_true rfl) (Nat.le_of_ble_eq_true rfl) dX5_favours_62 ⟨rfl, rfl⟩
    · have hf := bw_neg c_12 hf
      refine bw_iload_n 3 dX5_favours_12 rfl rfl ?_
      refine bw_iload_n 1 dX5_favours_13 rfl rfl ?_
      refine bw_if_lt 26 dX5_favours_14 (by decide) (fun c_13 => ?_) (fun c_13 => ?_)
      · have hf := bw_pos c_13 hf
        refine bw_iload_n 2 dX5_favours_26 rfl rfl ?_
        refine bw_if_lt 39 dX5_favours_27 (by decide) (fun c_14 => ?_) (fun c_14 => ?_)
        · have hf := bw_pos c_14 hf
          refine bw_aload_n 0 dX5_favours_39 rfl rfl ?_
          refine bw_gf bkX5 0 0 (by decide) fl_X5_7 rfl rfl dX5_favours_40 ?_
          refine bw_bipush 12 dX5_favours_43 (by decide) ?_
          refine bw_iload 4 dX5_favours_45 rfl ?_
          refine bw_iadd dX5_favours_47 ?_
          obtain ⟨h_15, hf⟩ := bw_chk hf
          refine bw_iald 1 rfl h_15 dX5_favours_48 ?_
          refine bw_goto 53 dX5_favours_49 (by decide) ?_
          refine bw_iadd dX5_favours_53 ?_
          refine bw_istore_n [(3, .int ((x3 + (vh_all (Int32.toNatClampNeg ((12 + x4))))))), (0, .ref ah), (1, .int x1), (2, .int x2), (4, .int x4)] dX5_favours_54 rfl (by decide) rfl ?_
          refine bw_iinc 4 (x4 + 1) [(4, .int ((x4 + 1))), (3, .int ((x3 + (vh_all (Int32.toNatClampNeg ((12 + x4))))))), (0, .ref ah), (1, .int x1), (2, .int x2)] dX5_favours_55 rfl rfl (by decide) rfl ?_
          refine bw_goto 5 dX5_favours_58 (by decide) ?_
          refine bw_lv [2, 3, 4, 1, 0] rfl ?_
          exact ih vh_historyLong vh_groups vh_leftLong vh_textLong vh_spot vh_read vh_all x1 x2 ((x3 + (vh_all (Int32.toNatClampNeg ((12 + x4)))))) ((x4 + 1)) _ hf
        · have hf := bw_neg c_14 hf
          refine bw_iload 4 dX5_favours_30 rfl ?_
          refine bw_bipush 6 dX5_favours_32 (by decide) ?_
          refine bw_idiv dX5_favours_34 (by decide) ?_
          refine bw_iload_n 2 dX5_favours_35 rfl rfl ?_
          refine bw_icmp_ne 52 dX5_favours_36 (by decide) (fun c_16 => ?_) (fun c_16 => ?_)
          · have hf := bw_neg c_16 hf
            refine bw_iconst 0 dX5_favours_52 (by decide) ?_
            refine bw_iadd dX5_favours_53 ?_
            refine bw_istore_n [(3, .int ((x3 + 0))), (0, .ref ah), (1, .int x1), (2, .int x2), (4, .int x4)] dX5_favours_54 rfl (by decide) rfl ?_
            refine bw_iinc 4 (x4 + 1) [(4, .int ((x4 + 1))), (3, .int ((x3 + 0))), (0, .ref ah), (1, .int x1), (2, .int x2)] dX5_favours_55 rfl rfl (by decide) rfl ?_
            refine bw_goto 5 dX5_favours_58 (by decide) ?_
            refine bw_lv [2, 3, 4, 1, 0] rfl ?_
            exact ih vh_historyLong vh_groups vh_leftLong vh_textLong vh_spot vh_read vh_all x1 x2 ((x3 + 0)) ((x4 + 1)) _ hf
          · have hf := bw_pos c_16 hf
            refine bw_aload_n 0 dX5_favours_39 rfl rfl ?_
            refine bw_gf bkX5 0 0 (by decide) fl_X5_7 rfl rfl dX5_favours_40 ?_
            refine bw_bipush 12 dX5_favours_43 (by decide) ?_
            refine bw_iload 4 dX5_favours_45 rfl ?_
            refine bw_iadd dX5_favours_47 ?_
            obtain ⟨h_17, hf⟩ := bw_chk hf
            refine bw_iald 1 rfl h_17 dX5_favours_48 ?_
            refine bw_goto 53 dX5_favours_49 (by decide) ?_
            refine bw_iadd dX5_favours_53 ?_
            refine bw_istore_n [(3, .int ((x3 + (vh_all (Int32.toNatClampNeg ((12 + x4))))))), (0, .ref ah), (1, .int x1), (2, .int x2), (4, .int x4)] dX5_favours_54 rfl (by decide) rfl ?_
            refine bw_iinc 4 (x4 + 1) [(4, .int ((x4 + 1))), (3, .int ((x3 + (vh_all (Int32.toNatClampNeg ((12 + x4))))))), (0, .ref ah), (1, .int x1), (2, .int x2)] dX5_favours_55 rfl rfl (by decide) rfl ?_
            refine bw_goto 5 dX5_favours_58 (by decide) ?_
            refine bw_lv [2, 3, 4, 1, 0] rfl ?_
            exact ih vh_historyLong vh_groups vh_leftLong vh_textLong vh_spot vh_read vh_all x1 x2 ((x3 + (vh_all (Int32.toNatClampNeg ((12 + x4)))))) ((x4 + 1)) _ hf
      · have hf := bw_neg c_13 hf
        refine bw_iload 4 dX5_favours_17 rfl ?_
        refine bw_bipush 6 dX5_favours_19 (by decide) ?_
        refine bw_irem dX5_favours_21 (by decide) ?_
        refine bw_iload_n 1 dX5_favours_22 rfl rfl ?_
        refine bw_icmp_ne 52 dX5_favours_23 (by decide) (fun c_18 => ?_) (fun c_18 => ?_)
        · have hf := bw_neg c_18 hf
          refine bw_iconst 0 dX5_favours_52 (by decide) ?_
          refine bw_iadd dX5_favours_53 ?_
          refine bw_istore_n [(3, .int ((x3 + 0))), (0, .ref ah), (1, .int x1), (2, .int x2), (4, .int x4)] dX5_favours_54 rfl (by decide) rfl ?_
          refine bw_iinc 4 (x4 + 1) [(4, .int ((x4 + 1))), (3, .int ((x3 + 0))), (0, .ref ah), (1, .int x1), (2, .int x2)] dX5_favours_55 rfl rfl (by decide) rfl ?_
          refine bw_goto 5 dX5_favours_58 (by decide) ?_
          refine bw_lv [2, 3, 4, 1, 0] rfl ?_
          exact ih vh_historyLong vh_groups vh_leftLong vh_textLong vh_spot vh_read vh_all x1 x2 ((x3 + 0)) ((x4 + 1)) _ hf
        · have hf := bw_pos c_18 hf
          refine bw_iload_n 2 dX5_favours_26 rfl rfl ?_
          refine bw_if_lt 39 dX5_favours_27 (by decide) (fun c_19 => ?_) (fun c_19 => ?_)
          · have hf := bw_pos c_19 hf
            refine bw_aload_n 0 dX5_favours_39 rfl rfl ?_
            refine bw_gf bkX5 0 0 (by decide) fl_X5_7 rfl rfl dX5_favours_40 ?_
            refine bw_bipush 12 dX5_favours_43 (by decide) ?_
            refine bw_iload 4 dX5_favours_45 rfl ?_
            refine bw_iadd dX5_favours_47 ?_
            obtain ⟨h_20, hf⟩ := bw_chk hf
            refine bw_iald 1 rfl h_20 dX5_favours_48 ?_
            refine bw_goto 53 dX5_favours_49 (by decide) ?_
            refine bw_iadd dX5_favours_53 ?_
            refine bw_istore_n [(3, .int ((x3 + (vh_all (Int32.toNatClampNeg ((12 + x4))))))), (0, .ref ah), (1, .int x1), (2, .int x2), (4, .int x4)] dX5_favours_54 rfl (by decide) rfl ?_
            refine bw_iinc 4 (x4 + 1) [(4, .int ((x4 + 1))), (3, .int ((x3 + (vh_all (Int32.toNatClampNeg ((12 + x4))))))), (0, .ref ah), (1, .int x1), (2, .int x2)] dX5_favours_55 rfl rfl (by decide) rfl ?_
            refine bw_goto 5 dX5_favours_58 (by decide) ?_
            refine bw_lv [2, 3, 4, 1, 0] rfl ?_
            exact ih vh_historyLong vh_groups vh_leftLong vh_textLong vh_spot vh_read vh_all x1 x2 ((x3 + (vh_all (Int32.toNatClampNeg ((12 + x4)))))) ((x4 + 1)) _ hf
          · have hf := bw_neg c_19 hf
            refine bw_iload 4 dX5_favours_30 rfl ?_
            refine bw_bipush 6 dX5_favours_32 (by decide) ?_
            refine bw_idiv dX5_favours_34 (by decide) ?_
            refine bw_iload_n 2 dX5_favours_35 rfl rfl ?_
            refine bw_icmp_ne 52 dX5_favours_36 (by decide) (fun c_21 => ?_) (fun c_21 => ?_)
            · have hf := bw_neg c_21 hf
              refine bw_iconst 0 dX5_favours_52 (by decide) ?_
              refine bw_iadd dX5_favours_53 ?_
              refine bw_istore_n [(3, .int ((x3 + 0))), (0, .ref ah), (1, .int x1), (2, .int x2), (4, .int x4)] dX5_favours_54 rfl (by decide) rfl ?_
              refine bw_iinc 4 (x4 + 1) [(4, .int ((x4 + 1))), (3, .int ((x3 + 0))), (0, .ref ah), (1, .int x1), (2, .int x2)] dX5_favours_55 rfl rfl (by decide) rfl ?_
              refine bw_goto 5 dX5_favours_58 (by decide) ?_
              refine bw_lv [2, 3, 4, 1, 0] rfl ?_
              exact ih vh_historyLong vh_groups vh_leftLong vh_textLong vh_spot vh_read vh_all x1 x2 ((x3 + 0)) ((x4 + 1)) _ hf
            · have hf := bw_pos c_21 hf
              refine bw_aload_n 0 dX5_favours_39 rfl rfl ?_
              refine bw_gf bkX5 0 0 (by decide) fl_X5_7 rfl rfl dX5_favours_40 ?_
              refine bw_bipush 12 dX5_favours_43 (by decide) ?_
              refine bw_iload 4 dX5_favours_45 rfl ?_
              refine bw_iadd dX5_favours_47 ?_
              obtain ⟨h_22, hf⟩ := bw_chk hf
              refine bw_iald 1 rfl h_22 dX5_favours_48 ?_
              refine bw_goto 53 dX5_favours_49 (by decide) ?_
              refine bw_iadd dX5_favours_53 ?_
              refine bw_istore_n [(3, .int ((x3 + (vh_all (Int32.toNatClampNeg ((12 + x4))))))), (0, .ref ah), (1, .int x1), (2, .int x2), (4, .int x4)] dX5_favours_54 rfl (by decide) rfl ?_
              refine bw_iinc 4 (x4 + 1) [(4, .int ((x4 + 1))), (3, .int ((x3 + (vh_all (Int32.toNatClampNeg ((12 + x4))))))), (0, .ref ah), (1, .int x1), (2, .int x2)] dX5_favours_55 rfl rfl (by decide) rfl ?_
              refine bw_goto 5 dX5_favours_58 (by decide) ?_
              refine bw_lv [2, 3, 4, 1, 0] rfl ?_
              exact ih vh_historyLong vh_groups vh_leftLong vh_textLong vh_spot vh_read vh_all x1 x2 ((x3 + (vh_all (Int32.toNatClampNeg ((12 + x4)))))) ((x4 + 1)) _ hf
theorem ar_X5_favours : yX5_favours.cls ≠ "java/lang/invoke/MethodHandle" ∧ yX5_favours.cls ≠ "java/lang/invoke/VarHandle" ∧ (parseMethodDescriptor yX5_favours.desc).map (fun d => d.parameters.length) = some 2 := ⟨by decide, by decide, by decide +kernel⟩
def f_X5_favours (vh_all : Nat → Int32) (p0 : Int32) (p1 : Int32) : Option (Int32) := (f_X5_favours_L5 bw_F vh_all p0 p1 0 0)
set_option maxHeartbeats 4000000 in
set_option maxRecDepth 100000 in
theorem s_X5_favours (l : Launch) (g : bwG) (ah ah_all ah_kept ah_history ah_slots ah_isSaved ah_words ah_left ah_seen ah_text ah_signs ah_pauses : Nat) (vh_historyLong : Int32) (vh_groups : Int32) (vh_leftLong : Int32) (vh_textLong : Int32) (vh_spot : Int32) (vh_read : Int32) (vh_all : Nat → Int32) (p0 : Int32) (p1 : Int32) (res : Int32) (hf : f_X5_favours vh_all p0 p1 = some res) : bwS l g yX5_favours cX5_favours 5 (some .int) ({ frames := 0, cells := 0, slots := 0, locals := 0 } : Room) [.ref ah, .int p0, .int p1] ([(ah, .inr (5, [.ref ah_all, .ref ah_kept, .ref ah_history, .int vh_historyLong, .ref ah_slots, .ref ah_isSaved, .ref ah_words, .int vh_groups, .ref ah_left, .int vh_leftLong, .ref ah_seen, .ref ah_text, .int vh_textLong, .int vh_spot, .ref ah_signs, .ref ah_pauses, .int vh_read])), (ah_all, .inl (g.2.1, 120, .inl vh_all))]) (fun r w => r = some (.int res) ∧ w = [(ah, .inr (5, [.ref ah_all, .ref ah_kept, .ref ah_history, .int vh_historyLong, .ref ah_slots, .ref ah_isSaved, .ref ah_words, .int vh_groups, .ref ah_left, .int vh_leftLong, .ref ah_seen, .ref ah_text, .int vh_textLong, .int vh_spot, .ref ah_signs, .ref ah_pauses, .int vh_read])), (ah_all, .inl (g.2.1, 120, .inl vh_all))]) := by
  refine bwS_of (by decide) (Nat.le_of_ble_eq_true rfl) ?_
  unfold f_X5_favours at hf
  show bwR l g cX5_favours 5 RX5 "favours" (some .int) ({ frames := 0, cells := 0, slots := 0, locals := 0 } : Room) bwT (bwZ g (fun r w => r = some (.int res) ∧ w = [(ah, .inr (5, [.ref ah_all, .ref ah_kept, .ref ah_history, .int vh_historyLong, .ref ah_slots, .ref ah_isSaved, .ref ah_words, .int vh_groups, .ref ah_left, .int vh_leftLong, .ref ah_seen, .ref ah_text, .int vh_textLong, .int vh_spot, .ref ah_signs, .ref ah_pauses, .int vh_read])), (ah_all, .inl (g.2.1, 120, .inl vh_all))]) 0 0) 0 [(0, .ref ah), (1, .int p0), (2, .int p1)] [] ([(ah, .inr (5, [.ref ah_all, .ref ah_kept, .ref ah_history, .int vh_historyLong, .ref ah_slots, .ref ah_isSaved, .ref ah_words, .int vh_groups, .ref ah_left, .int vh_leftLong, .ref ah_seen, .ref ah_text, .int vh_textLong, .int vh_spot, .ref ah_signs, .ref ah_pauses, .int vh_read])), (ah_all, .inl (g.2.1, 120, .inl vh_all))]) 0 0
  refine bw_iconst 0 dX5_favours_0 (by decide) ?_
  refine bw_istore_n [(3, .int 0), (0, .ref ah), (1, .int p0), (2, .int p1)] dX5_favours_1 rfl (by decide) rfl ?_
  refine bw_iconst 0 dX5_favours_2 (by decide) ?_
  refine bw_istore [(4, .int 0), (3, .int 0), (0, .ref ah), (1, .int p0), (2, .int p1)] dX5_favours_3 (by decide) rfl ?_
  refine bw_lv [2, 3, 4, 1, 0] rfl ?_
  exact s_X5_favours_L5 l g ah ah_all ah_kept ah_history ah_slots ah_isSaved ah_words ah_left ah_seen ah_text ah_signs ah_pauses bw_F vh_historyLong vh_groups vh_leftLong vh_textLong vh_spot vh_read vh_all p0 p1 0 0 _ hf
def f_X5_othersSeen_L4 : Nat → (Int32) → (Int32) → (Nat → Int32) → (Nat → Int32) → (Nat → Int32) → (Nat → Int32) → (Int32) → (Int32) → Option (Int32 × (Int32) × (Int32) × (Nat → Int32) × (Nat → Int32) × (Nat → Int32))
  | 0, _, _, _, _, _, _, _, _ => none
  | fu + 1, vh_groups, vh_leftLong, vh_all, vh_words, vh_left, vh_seen, x1, x2 => (if 6 ≤ x2 then some (x1, vh_groups, vh_leftLong, vh_words, vh_left, vh_seen) else (if bw_in ((6 + x2)) 120 then ((f_X5_seesOthers vh_groups vh_leftLong vh_all vh_words vh_left vh_seen ((vh_all (Int32.toNatClampNeg ((6 + x2)))))).bind fun q_7 => (if q_7.1 = 0 then (f_X5_othersSeen_L4 fu q_7.2.1 q_7.2.2.1 vh_all q_7.2.2.2.1 q_7.2.2.2.2.1 q_7.2.2.2.2.2 ((x1 + 0)) ((x2 + 1))) else (f_X5_othersSeen_L4 fu q_7.2.1 q_7.2.2.1 vh_all q_7.2.2.2.1 q_7.2.2.2.2.1 q_7.2.2.2.2.2 ((x1 + 1)) ((x2 + 1))))) else none))
set_option maxHeartbeats 4000000 in
set_option maxRecDepth 100000 in
theorem s_X5_othersSeen_L4 (l : Launch) (g : bwG) (ah ah_all ah_kept ah_history ah_slots ah_isSaved ah_words ah_left ah_seen ah_text ah_signs ah_pauses : Nat) (fu : Nat) : ∀ (vh_historyLong : Int32) (vh_groups : Int32) (vh_leftLong : Int32) (vh_textLong : Int32) (vh_spot : Int32) (vh_read : Int32) (vh_all : Nat → Int32) (vh_words : Nat → Int32) (vh_left : Nat → Int32) (vh_seen : Nat → Int32) (x1 : Int32) (x2 : Int32) (res : Int32 × (Int32) × (Int32) × (Nat → Int32) × (Nat → Int32) × (Nat → Int32)), f_X5_othersSeen_L4 fu vh_groups vh_leftLong vh_all vh_words vh_left vh_seen x1 x2 = some res → bwR l g cX5_othersSeen 3 RX5 "othersSeen" (some .int) ({ frames := 6, cells := 0, slots := 0, locals := 134 } : Room) bwT (bwZ g (fun r w => r = some (.int res.1) ∧ w = [(ah, .inr (5, [.ref ah_all, .ref ah_kept, .ref ah_history, .int vh_historyLong, .ref ah_slots, .ref ah_isSaved, .ref ah_words, .int res.2.1, .ref ah_left, .int res.2.2.1, .ref ah_seen, .ref ah_text, .int vh_textLong, .int vh_spot, .ref ah_signs, .ref ah_pauses, .int vh_read])), (ah_all, .inl (g.2.1, 120, .inl vh_all)), (ah_words, .inl (g.2.1, 24, .inl res.2.2.2.1)), (ah_left, .inl (g.2.1, 24, .inl res.2.2.2.2.1)), (ah_seen, .inl (g.2.1, 24, .inl res.2.2.2.2.2))]) 0 0) 4 [(0, .ref ah), (1, .int x1), (2, .int x2)] [] ([(ah, .inr (5, [.ref ah_all, .ref ah_kept, .ref ah_history, .int vh_historyLong, .ref ah_slots, .ref ah_isSaved, .ref ah_words, .int vh_groups, .ref ah_left, .int vh_leftLong, .ref ah_seen, .ref ah_text, .int vh_textLong, .int vh_spot, .ref ah_signs, .ref ah_pauses, .int vh_read])), (ah_all, .inl (g.2.1, 120, .inl vh_all)), (ah_words, .inl (g.2.1, 24, .inl vh_words)), (ah_left, .inl (g.2.1, 24, .inl vh_left)), (ah_seen, .inl (g.2.1, 24, .inl vh_seen))]) 0 0 := by
  induction fu with
  | zero => intro vh_historyLong vh_groups vh_leftLong vh_textLong vh_spot vh_read vh_all vh_words vh_left vh_seen x1 x2 res hf; exact absurd hf (by intro h; cases h)
  | succ fu ih =>
    intro vh_historyLong vh_groups vh_leftLong vh_textLong vh_spot vh_read vh_all vh_words vh_left vh_seen x1 x2 res hf
    rw [f_X5_othersSeen_L4] at hf
    refine bw_iload_n 2 dX5_othersSeen_4 rfl rfl ?_
    refine bw_bipush 6 dX5_othersSeen_5 (by decide) ?_
    refine bw_icmp_ge 40 dX5_othersSeen_7 (by decide) (fun c_5 => ?_) (fun c_5 => ?_)
    · have hf := bw_pos c_5 hf
      refine bw_iload_n 1 dX5_othersSeen_40 rfl rfl ?_
      cases Option.some.inj hf
      exact bw_ret rfl rfl (Nat.le_of_ble_eq_true rfl) (Nat.le_of_ble_eq_true rfl) dX5_othersSeen_41 ⟨rfl, rfl⟩
    · have hf := bw_neg c_5 hf
      refine bw_iload_n 1 dX5_othersSeen_10 rfl rfl ?_
      refine bw_aload_n 0 dX5_othersSeen_11 rfl rfl ?_
      refine bw_aload_n 0 dX5_othersSeen_12 rfl rfl ?_
      refine bw_gf bkX5 0 0 (by decide) fl_X5_7 rfl rfl dX5_othersSeen_13 ?_
      refine bw_bipush 6 dX5_othersSeen_16 (by decide) ?_
      refine bw_iload_n 2 dX5_othersSeen_18 rfl rfl ?_
      refine bw_iadd dX5_othersSeen_19 ?_
      obtain ⟨h_6, hf⟩ := bw_chk hf
      refine bw_iald 1 rfl h_6 dX5_othersSeen_20 ?_
      obtain ⟨q_7, hc_7, hf⟩ := bw_bind hf
      refine bw_callV [.int ((vh_all (Int32.toNatClampNeg ((6 + x2)))))] [.int x1] [] 0 5 (s_X5_seesOthers l g ah ah_all ah_kept ah_history ah_slots ah_isSaved ah_words ah_left ah_seen ah_text ah_signs ah_pauses vh_historyLong vh_groups vh_leftLong vh_textLong vh_spot vh_read vh_all vh_words vh_left vh_seen ((vh_all (Int32.toNatClampNeg ((6 + x2))))) _ hc_7) rfl co_X5_seesOthers ini_X5 ml_X5_156 im_X5_seesOthers se_X5_seesOthers ar_X5_seesOthers ⟨Nat.le_of_ble_eq_true rfl, Nat.le_of_ble_eq_true rfl⟩ ⟨Nat.le_of_ble_eq_true rfl, Nat.le_of_ble_eq_true rfl⟩ rfl rfl (bw_pick1 5 [0, 1, 2, 3, 4] rfl rfl (by decide)) (Nat.le_of_ble_eq_true rfl) dX5_othersSeen_21 (fun r w1 hq => ?_)
      obtain ⟨rfl, rfl⟩ := hq
      refine bw_perm (ws1 := [(ah, .inr (5, [.ref ah_all, .ref ah_kept, .ref ah_history, .int vh_historyLong, .ref ah_slots, .ref ah_isSaved, .ref ah_words, .int q_7.2.1, .ref ah_left, .int q_7.2.2.1, .ref ah_seen, .ref ah_text, .int vh_textLong, .int vh_spot, .ref ah_signs, .ref ah_pauses, .int vh_read])), (ah_all, .inl (g.2.1, 120, .inl vh_all)), (ah_words, .inl (g.2.1, 24, .inl q_7.2.2.2.1)), (ah_left, .inl (g.2.1, 24, .inl q_7.2.2.2.2.1)), (ah_seen, .inl (g.2.1, 24, .inl q_7.2.2.2.2.2))]) (bw_pick1 5 [0, 1, 2, 3, 4] rfl rfl (by decide)) ?_
      refine bw_st (st1 := [.int q_7.1, .int x1]) rfl ?_
      refine bw_if_eq 31 dX5_othersSeen_24 (by decide) (fun c_8 => ?_) (fun c_8 => ?_)
      · have hf := bw_pos c_8 hf
        refine bw_iconst 0 dX5_othersSeen_31 (by decide) ?_
        refine bw_iadd dX5_othersSeen_32 ?_
        refine bw_istore_n [(1, .int ((x1 + 0))), (0, .ref ah), (2, .int x2)] dX5_othersSeen_33 rfl (by decide) rfl ?_
        refine bw_iinc 2 (x2 + 1) [(2, .int ((x2 + 1))), (1, .int ((x1 + 0))), (0, .ref ah)] dX5_othersSeen_34 rfl rfl (by decide) rfl ?_
        refine bw_goto 4 dX5_othersSeen_37 (by decide) ?_
        refine bw_lv [2, 1, 0] rfl ?_
        exact ih vh_historyLong q_7.2.1 q_7.2.2.1 vh_textLong vh_spot vh_read vh_all q_7.2.2.2.1 q_7.2.2.2.2.1 q_7.2.2.2.2.2 ((x1 + 0)) ((x2 + 1)) _ hf
      · have hf := bw_neg c_8 hf
        refine bw_iconst 1 dX5_othersSeen_27 (by decide) ?_
        refine bw_goto 32 dX5_othersSeen_28 (by decide) ?_
        refine bw_iadd dX5_othersSeen_32 ?_
        refine bw_istore_n [(1, .int ((x1 + 1))), (0, .ref ah), (2, .int x2)] dX5_othersSeen_33 rfl (by decide) rfl ?_
        refine bw_iinc 2 (x2 + 1) [(2, .int ((x2 + 1))), (1, .int ((x1 + 1))), (0, .ref ah)] dX5_othersSeen_34 rfl rfl (by decide) rfl ?_
        refine bw_goto 4 dX5_othersSeen_37 (by decide) ?_
        refine bw_lv [2, 1, 0] rfl ?_
        exact ih vh_historyLong q_7.2.1 q_7.2.2.1 vh_textLong vh_spot vh_read vh_all q_7.2.2.2.1 q_7.2.2.2.2.1 q_7.2.2.2.2.2 ((x1 + 1)) ((x2 + 1)) _ hf
theorem ar_X5_othersSeen : yX5_othersSeen.cls ≠ "java/lang/invoke/MethodHandle" ∧ yX5_othersSeen.cls ≠ "java/lang/invoke/VarHandle" ∧ (parseMethodDescriptor yX5_othersSeen.desc).map (fun d => d.parameters.length) = some 0 := ⟨by decide, by decide, by decide +kernel⟩
def f_X5_othersSeen (vh_groups : Int32) (vh_leftLong : Int32) (vh_all : Nat → Int32) (vh_words : Nat → Int32) (vh_left : Nat → Int32) (vh_seen : Nat → Int32)  : Option (Int32 × (Int32) × (Int32) × (Nat → Int32) × (Nat → Int32) × (Nat → Int32)) := (f_X5_othersSeen_L4 bw_F vh_groups vh_leftLong vh_all vh_words vh_left vh_seen 0 0)
set_option maxHeartbeats 4000000 in
set_option maxRecDepth 100000 in
theorem s_X5_othersSeen (l : Launch) (g : bwG) (ah ah_all ah_kept ah_history ah_slots ah_isSaved ah_words ah_left ah_seen ah_text ah_signs ah_pauses : Nat) (vh_historyLong : Int32) (vh_groups : Int32) (vh_leftLong : Int32) (vh_textLong : Int32) (vh_spot : Int32) (vh_read : Int32) (vh_all : Nat → Int32) (vh_words : Nat → Int32) (vh_left : Nat → Int32) (vh_seen : Nat → Int32)  (res : Int32 × (Int32) × (Int32) × (Nat → Int32) × (Nat → Int32) × (Nat → Int32)) (hf : f_X5_othersSeen vh_groups vh_leftLong vh_all vh_words vh_left vh_seen  = some res) : bwS l g yX5_othersSeen cX5_othersSeen 3 (some .int) ({ frames := 6, cells := 0, slots := 0, locals := 134 } : Room) [.ref ah] ([(ah, .inr (5, [.ref ah_all, .ref ah_kept, .ref ah_history, .int vh_historyLong, .ref ah_slots, .ref ah_isSaved, .ref ah_words, .int vh_groups, .ref ah_left, .int vh_leftLong, .ref ah_seen, .ref ah_text, .int vh_textLong, .int vh_spot, .ref ah_signs, .ref ah_pauses, .int vh_read])), (ah_all, .inl (g.2.1, 120, .inl vh_all)), (ah_words, .inl (g.2.1, 24, .inl vh_words)), (ah_left, .inl (g.2.1, 24, .inl vh_left)), (ah_seen, .inl (g.2.1, 24, .inl vh_seen))]) (fun r w => r = some (.int res.1) ∧ w = [(ah, .inr (5, [.ref ah_all, .ref ah_kept, .ref ah_history, .int vh_historyLong, .ref ah_slots, .ref ah_isSaved, .ref ah_words, .int res.2.1, .ref ah_left, .int res.2.2.1, .ref ah_seen, .ref ah_text, .int vh_textLong, .int vh_spot, .ref ah_signs, .ref ah_pauses, .int vh_read])), (ah_all, .inl (g.2.1, 120, .inl vh_all)), (ah_words, .inl (g.2.1, 24, .inl res.2.2.2.1)), (ah_left, .inl (g.2.1, 24, .inl res.2.2.2.2.1)), (ah_seen, .inl (g.2.1, 24, .inl res.2.2.2.2.2))]) := by
  refine bwS_of (by decide) (Nat.le_of_ble_eq_true rfl) ?_
  unfold f_X5_othersSeen at hf
  show bwR l g cX5_othersSeen 3 RX5 "othersSeen" (some .int) ({ frames := 6, cells := 0, slots := 0, locals := 134 } : Room) bwT (bwZ g (fun r w => r = some (.int res.1) ∧ w = [(ah, .inr (5, [.ref ah_all, .ref ah_kept, .ref ah_history, .int vh_historyLong, .ref ah_slots, .ref ah_isSaved, .ref ah_words, .int res.2.1, .ref ah_left, .int res.2.2.1, .ref ah_seen, .ref ah_text, .int vh_textLong, .int vh_spot, .ref ah_signs, .ref ah_pauses, .int vh_read])), (ah_all, .inl (g.2.1, 120, .inl vh_all)), (ah_words, .inl (g.2.1, 24, .inl res.2.2.2.1)), (ah_left, .inl (g.2.1, 24, .inl res.2.2.2.2.1)), (ah_seen, .inl (g.2.1, 24, .inl res.2.2.2.2.2))]) 0 0) 0 [(0, .ref ah)] [] ([(ah, .inr (5, [.ref ah_all, .ref ah_kept, .ref ah_history, .int vh_historyLong, .ref ah_slots, .ref ah_isSaved, .ref ah_words, .int vh_groups, .ref ah_left, .int vh_leftLong, .ref ah_seen, .ref ah_text, .int vh_textLong, .int vh_spot, .ref ah_signs, .ref ah_pauses, .int vh_read])), (ah_all, .inl (g.2.1, 120, .inl vh_all)), (ah_words, .inl (g.2.1, 24, .inl vh_words)), (ah_left, .inl (g.2.1, 24, .inl vh_left)), (ah_seen, .inl (g.2.1, 24, .inl vh_seen))]) 0 0
  refine bw_iconst 0 dX5_othersSeen_0 (by decide) ?_
  refine bw_istore_n [(1, .int 0), (0, .ref ah)] dX5_othersSeen_1 rfl (by decide) rfl ?_
  refine bw_iconst 0 dX5_othersSeen_2 (by decide) ?_
  refine bw_istore_n [(2, .int 0), (1, .int 0), (0, .ref ah)] dX5_othersSeen_3 rfl (by decide) rfl ?_
  refine bw_lv [2, 1, 0] rfl ?_
  exact s_X5_othersSeen_L4 l g ah ah_all ah_kept ah_history ah_slots ah_isSaved ah_words ah_left ah_seen ah_text ah_signs ah_pauses bw_F vh_historyLong vh_groups vh_leftLong vh_textLong vh_spot vh_read vh_all vh_words vh_left vh_seen 0 0 _ hf
theorem ar_X5_count : yX5_count.cls ≠ "java/lang/invoke/MethodHandle" ∧ yX5_count.cls ≠ "java/lang/invoke/VarHandle" ∧ (parseMethodDescriptor yX5_count.desc).map (fun d => d.parameters.length) = some 1 := ⟨by decide, by decide, by decide +kernel⟩
def f_X5_count (vh_historyLong : Int32) (vh_groups : Int32) (vh_leftLong : Int32) (vh_textLong : Int32) (vh_all : Nat → Int32) (vh_words : Nat → Int32) (vh_left : Nat → Int32) (vh_seen : Nat → Int32) (p0 : Int32) : Option (Int32 × (Int32) × (Int32) × (Nat → Int32) × (Nat → Int32) × (Nat → Int32)) := (if p0 = 6 then ((f_X5_othersSeen vh_groups vh_leftLong vh_all vh_words vh_left vh_seen).bind fun q_11 => some (q_11.1, q_11.2.1, q_11.2.2.1, q_11.2.2.2.1, q_11.2.2.2.2.1, q_11.2.2.2.2.2)) else (if p0 = 7 then ((f_X5_favours vh_all ((-1)) ((-1))).bind fun q_13 => some (q_13, vh_groups, vh_leftLong, vh_words, vh_left, vh_seen)) else (if p0 = 8 then some (vh_textLong, vh_groups, vh_leftLong, vh_words, vh_left, vh_seen) else (if p0 = 9 then some (vh_historyLong, vh_groups, vh_leftLong, vh_words, vh_left, vh_seen) else ((f_X5_in (((p0 : Int32).toInt64)) 0 5).bind fun q_16 => (if q_16 = 0 then some ((-1000002), vh_groups, vh_leftLong, vh_words, vh_left, vh_seen) else (if bw_in p0 120 then some ((vh_all (Int32.toNatClampNeg p0)), vh_groups, vh_leftLong, vh_words, vh_left, vh_seen) else none)))))))
set_option maxHeartbeats 4000000 in
set_option maxRecDepth 100000 in
theorem s_X5_count (l : Launch) (g : bwG) (ah ah_all ah_kept ah_history ah_slots ah_isSaved ah_words ah_left ah_seen ah_text ah_signs ah_pauses : Nat) (vh_historyLong : Int32) (vh_groups : Int32) (vh_leftLong : Int32) (vh_textLong : Int32) (vh_spot : Int32) (vh_read : Int32) (vh_all : Nat → Int32) (vh_words : Nat → Int32) (vh_left : Nat → Int32) (vh_seen : Nat → Int32) (p0 : Int32) (res : Int32 × (Int32) × (Int32) × (Nat → Int32) × (Nat → Int32) × (Nat → Int32)) (hf : f_X5_count vh_historyLong vh_groups vh_leftLong vh_textLong vh_all vh_words vh_left vh_seen p0 = some res) : bwS l g yX5_count cX5_count 2 (some .int) ({ frames := 7, cells := 0, slots := 0, locals := 156 } : Room) [.ref ah, .int p0] ([(ah, .inr (5, [.ref ah_all, .ref ah_kept, .ref ah_history, .int vh_historyLong, .ref ah_slots, .ref ah_isSaved, .ref ah_words, .int vh_groups, .ref ah_left, .int vh_leftLong, .ref ah_seen, .ref ah_text, .int vh_textLong, .int vh_spot, .ref ah_signs, .ref ah_pauses, .int vh_read])), (ah_all, .inl (g.2.1, 120, .inl vh_all)), (ah_words, .inl (g.2.1, 24, .inl vh_words)), (ah_left, .inl (g.2.1, 24, .inl vh_left)), (ah_seen, .inl (g.2.1, 24, .inl vh_seen))]) (fun r w => r = some (.int res.1) ∧ w = [(ah, .inr (5, [.ref ah_all, .ref ah_kept, .ref ah_history, .int vh_historyLong, .ref ah_slots, .ref ah_isSaved, .ref ah_words, .int res.2.1, .ref ah_left, .int res.2.2.1, .ref ah_seen, .ref ah_text, .int vh_textLong, .int vh_spot, .ref ah_signs, .ref ah_pauses, .int vh_read])), (ah_all, .inl (g.2.1, 120, .inl vh_all)), (ah_words, .inl (g.2.1, 24, .inl res.2.2.2.1)), (ah_left, .inl (g.2.1, 24, .inl res.2.2.2.2.1)), (ah_seen, .inl (g.2.1, 24, .inl res.2.2.2.2.2))]) := by
  refine bwS_of (by decide) (Nat.le_of_ble_eq_true rfl) ?_
  unfold f_X5_count at hf
  show bwR l g cX5_count 2 RX5 "count" (some .int) ({ frames := 7, cells := 0, slots := 0, locals := 156 } : Room) bwT (bwZ g (fun r w => r = some (.int res.1) ∧ w = [(ah, .inr (5, [.ref ah_all, .ref ah_kept, .ref ah_history, .int vh_historyLong, .ref ah_slots, .ref ah_isSaved, .ref ah_words, .int res.2.1, .ref ah_left, .int res.2.2.1, .ref ah_seen, .ref ah_text, .int vh_textLong, .int vh_spot, .ref ah_signs, .ref ah_pauses, .int vh_read])), (ah_all, .inl (g.2.1, 120, .inl vh_all)), (ah_words, .inl (g.2.1, 24, .inl res.2.2.2.1)), (ah_left, .inl (g.2.1, 24, .inl res.2.2.2.2.1)), (ah_seen, .inl (g.2.1, 24, .inl res.2.2.2.2.2))]) 0 0) 0 [(0, .ref ah), (1, .int p0)] [] ([(ah, .inr (5, [.ref ah_all, .ref ah_kept, .ref ah_history, .int vh_historyLong, .ref ah_slots, .ref ah_isSaved, .ref ah_words, .int vh_groups, .ref ah_left, .int vh_leftLong, .ref ah_seen, .ref ah_text, .int vh_textLong, .int vh_spot, .ref ah_signs, .ref ah_pauses, .int vh_read])), (ah_all, .inl (g.2.1, 120, .inl vh_all)), (ah_words, .inl (g.2.1, 24, .inl vh_words)), (ah_left, .inl (g.2.1, 24, .inl vh_left)), (ah_seen, .inl (g.2.1, 24, .inl vh_seen))]) 0 0
  refine bw_iload_n 1 dX5_count_0 rfl rfl ?_
  rcases Decidable.em (p0 = 6) with c_10 | c_10
  · have hf := bw_pos c_10 hf
    refine bw_tableIn (off := 31) 32 dX5_count_1 (by rw [c_10]; decide) (by rw [c_10]; decide) (by rw [c_10]; rfl) (by decide) ?_
    refine bw_aload_n 0 dX5_count_32 rfl rfl ?_
    obtain ⟨q_11, hc_11, hf⟩ := bw_bind hf
    refine bw_callV [] [] [] 0 5 (s_X5_othersSeen l g ah ah_all ah_kept ah_history ah_slots ah_isSaved ah_words ah_left ah_seen ah_text ah_signs ah_pauses vh_historyLong vh_groups vh_leftLong vh_textLong vh_spot vh_read vh_all vh_words vh_left vh_seen  _ hc_11) rfl co_X5_othersSeen ini_X5 ml_X5_159 im_X5_othersSeen se_X5_othersSeen ar_X5_othersSeen ⟨Nat.le_of_ble_eq_true rfl, Nat.le_of_ble_eq_true rfl⟩ ⟨Nat.le_of_ble_eq_true rfl, Nat.le_of_ble_eq_true rfl⟩ rfl rfl (bw_pick1 5 [0, 1, 2, 3, 4] rfl rfl (by decide)) (Nat.le_of_ble_eq_true rfl) dX5_count_33 (fun r w1 hq => ?_)
    obtain ⟨rfl, rfl⟩ := hq
    refine bw_perm (ws1 := [(ah, .inr (5, [.ref ah_all, .ref ah_kept, .ref ah_history, .int vh_historyLong, .ref ah_slots, .ref ah_isSaved, .ref ah_words, .int q_11.2.1, .ref ah_left, .int q_11.2.2.1, .ref ah_seen, .ref ah_text, .int vh_textLong, .int vh_spot, .ref ah_signs, .ref ah_pauses, .int vh_read])), (ah_all, .inl (g.2.1, 120, .inl vh_all)), (ah_words, .inl (g.2.1, 24, .inl q_11.2.2.2.1)), (ah_left, .inl (g.2.1, 24, .inl q_11.2.2.2.2.1)), (ah_seen, .inl (g.2.1, 24, .inl q_11.2.2.2.2.2))]) (bw_pick1 5 [0, 1, 2, 3, 4] rfl rfl (by decide)) ?_
    refine bw_st (st1 := [.int q_11.1]) rfl ?_
    cases Option.some.inj hf
    exact bw_ret rfl rfl (Nat.le_of_ble_eq_true rfl) (Nat.le_of_ble_eq_true rfl) dX5_count_36 ⟨rfl, rfl⟩
  · have hf := bw_neg c_10 hf
    rcases Decidable.em (p0 = 7) with c_12 | c_12
    · have hf := bw_pos c_12 hf
      refine bw_tableIn (off := 36) 37 dX5_count_1 (by rw [c_12]; decide) (by rw [c_12]; decide) (by rw [c_12]; rfl) (by decide) ?_
      refine bw_aload_n 0 dX5_count_37 rfl rfl ?_
      refine bw_iconst (-1) dX5_count_38 (by decide) ?_
      refine bw_iconst (-1) dX5_count_39 (by decide) ?_
      obtain ⟨q_13, hc_13, hf⟩ := bw_bind hf
      refine bw_callV [.int ((-1)), .int ((-1))] [] [(ah_words, .inl (g.2.1, 24, .inl vh_words)), (ah_left, .inl (g.2.1, 24, .inl vh_left)), (ah_seen, .inl (g.2.1, 24, .inl vh_seen))] 0 5 (s_X5_favours l g ah ah_all ah_kept ah_history ah_slots ah_isSaved ah_words ah_left ah_seen ah_text ah_signs ah_pauses vh_historyLong vh_groups vh_leftLong vh_textLong vh_spot vh_read vh_all ((-1)) ((-1)) _ hc_13) rfl co_X5_favours ini_X5 ml_X5_162 im_X5_favours se_X5_favours ar_X5_favours ⟨Nat.le_of_ble_eq_true rfl, Nat.le_of_ble_eq_true rfl⟩ ⟨Nat.le_of_ble_eq_true rfl, Nat.le_of_ble_eq_true rfl⟩ rfl rfl (bw_pick1 5 [0, 1, 2, 3, 4] rfl rfl (by decide)) (Nat.le_of_ble_eq_true rfl) dX5_count_40 (fun r w1 hq => ?_)
      obtain ⟨rfl, rfl⟩ := hq
      refine bw_perm (ws1 := [(ah, .inr (5, [.ref ah_all, .ref ah_kept, .ref ah_history, .int vh_historyLong, .ref ah_slots, .ref ah_isSaved, .ref ah_words, .int vh_groups, .ref ah_left, .int vh_leftLong, .ref ah_seen, .ref ah_text, .int vh_textLong, .int vh_spot, .ref ah_signs, .ref ah_pauses, .int vh_read])), (ah_all, .inl (g.2.1, 120, .inl vh_all)), (ah_words, .inl (g.2.1, 24, .inl vh_words)), (ah_left, .inl (g.2.1, 24, .inl vh_left)), (ah_seen, .inl (g.2.1, 24, .inl vh_seen))]) (bw_pick1 5 [3, 4, 0, 1, 2] rfl rfl (by decide)) ?_
      refine bw_st (st1 := [.int q_13]) rfl ?_
      cases Option.some.inj hf
      exact bw_ret rfl rfl (Nat.le_of_ble_eq_true rfl) (Nat.le_of_ble_eq_true rfl) dX5_count_43 ⟨rfl, rfl⟩
    · have hf := bw_neg c_12 hf
      rcases Decidable.em (p0 = 8) with c_14 | c_14
      · have hf := bw_pos c_14 hf
        refine bw_tableIn (off := 43) 44 dX5_count_1 (by rw [c_14]; decide) (by rw [c_14]; decide) (by rw [c_14]; rfl) (by decide) ?_
        refine bw_aload_n 0 dX5_count_44 rfl rfl ?_
        refine bw_gf bkX5 0 12 (by decide) fl_X5_144 rfl rfl dX5_count_45 ?_
        cases Option.some.inj hf
        exact bw_ret rfl rfl (Nat.le_of_ble_eq_true rfl) (Nat.le_of_ble_eq_true rfl) dX5_count_48 ⟨rfl, rfl⟩
      · have hf := bw_neg c_14 hf
        rcases Decidable.em (p0 = 9) with c_15 | c_15
        · have hf := bw_pos c_15 hf
          refine bw_tableIn (off := 48) 49 dX5_count_1 (by rw [c_15]; decide) (by rw [c_15]; decide) (by rw [c_15]; rfl) (by decide) ?_
          refine bw_aload_n 0 dX5_count_49 rfl rfl ?_
          refine bw_gf bkX5 0 3 (by decide) fl_X5_43 rfl rfl dX5_count_50 ?_
          cases Option.some.inj hf
          exact bw_ret rfl rfl (Nat.le_of_ble_eq_true rfl) (Nat.le_of_ble_eq_true rfl) dX5_count_53 ⟨rfl, rfl⟩
        · have hf := bw_neg c_15 hf
          refine bw_tableOut 54 dX5_count_1 (bw_out4_6 c_10 c_12 c_14 c_15) (by decide) ?_
          refine bw_iload_n 1 dX5_count_54 rfl rfl ?_
          refine bw_i2l dX5_count_55 ?_
          refine bw_lconst 0 dX5_count_56 (by decide) ?_
          refine bw_ldc2 ct_X5_53 dX5_count_57 ?_
          obtain ⟨q_16, hc_16, hf⟩ := bw_bind hf
          refine bw_callS [.long (((p0 : Int32).toInt64)), .long 0, .long 5] [] [(ah, .inr (5, [.ref ah_all, .ref ah_kept, .ref ah_history, .int vh_historyLong, .ref ah_slots, .ref ah_isSaved, .ref ah_words, .int vh_groups, .ref ah_left, .int vh_leftLong, .ref ah_seen, .ref ah_text, .int vh_textLong, .int vh_spot, .ref ah_signs, .ref ah_pauses, .int vh_read])), (ah_all, .inl (g.2.1, 120, .inl vh_all)), (ah_words, .inl (g.2.1, 24, .inl vh_words)), (ah_left, .inl (g.2.1, 24, .inl vh_left)), (ah_seen, .inl (g.2.1, 24, .inl vh_seen))] (s_X5_in l g   (((p0 : Int32).toInt64)) 0 5 _ hc_16) rfl co_X5_in ini_X5 ml_X5_49 st_X5_in ar_X5_in ⟨Nat.le_of_ble_eq_true rfl, Nat.le_of_ble_eq_true rfl⟩ ⟨Nat.le_of_ble_eq_true rfl, Nat.le_of_ble_eq_true rfl⟩ (bw_pick1 5 [0, 1, 2, 3, 4] rfl rfl (by decide)) (Nat.le_of_ble_eq_true rfl) dX5_count_60 (fun r w1 hq => ?_)
          obtain ⟨rfl, rfl⟩ := hq
          refine bw_perm (ws1 := [(ah, .inr (5, [.ref ah_all, .ref ah_kept, .ref ah_history, .int vh_historyLong, .ref ah_slots, .ref ah_isSaved, .ref ah_words, .int vh_groups, .ref ah_left, .int vh_leftLong, .ref ah_seen, .ref ah_text, .int vh_textLong, .int vh_spot, .ref ah_signs, .ref ah_pauses, .int vh_read])), (ah_all, .inl (g.2.1, 120, .inl vh_all)), (ah_words, .inl (g.2.1, 24, .inl vh_words)), (ah_left, .inl (g.2.1, 24, .inl vh_left)), (ah_seen, .inl (g.2.1, 24, .inl vh_seen))]) (bw_pick1 5 [0, 1, 2, 3, 4] rfl rfl (by decide)) ?_
          refine bw_st (st1 := [.int q_16]) rfl ?_
          refine bw_if_eq 75 dX5_count_63 (by decide) (fun c_17 => ?_) (fun c_17 => ?_)
          · have hf := bw_pos c_17 hf
            refine bw_ldc ct_X5_121 dX5_count_75 ?_
            cases Option.some.inj hf
            exact bw_ret rfl rfl (Nat.le_of_ble_eq_true rfl) (Nat.le_of_ble_eq_true rfl) dX5_count_77 ⟨rfl, rfl⟩
          · have hf := bw_neg c_17 hf
            refine bw_aload_n 0 dX5_count_66 rfl rfl ?_
            refine bw_gf bkX5 0 0 (by decide) fl_X5_7 rfl rfl dX5_count_67 ?_
            refine bw_iload_n 1 dX5_count_70 rfl rfl ?_
            obtain ⟨h_18, hf⟩ := bw_chk hf
            refine bw_iald 1 rfl h_18 dX5_count_71 ?_
            refine bw_goto 77 dX5_count_72 (by decide) ?_
            cases Option.some.inj hf
            exact bw_ret rfl rfl (Nat.le_of_ble_eq_true rfl) (Nat.le_of_ble_eq_true rfl) dX5_count_77 ⟨rfl, rfl⟩
def f_X5_wouldTake_L28 : Nat → (Int32) → (Int32) → (Nat → Int32) → (Nat → Int32) → (Nat → Int32) → (Int32) → (Int32) → (Int32) → (Int32) → Option (Int32 × (Int32) × (Int32) × (Nat → Int32) × (Nat → Int32))
  | 0, _, _, _, _, _, _, _, _, _ => none
  | fu + 1, vh_groups, vh_leftLong, vh_all, vh_words, vh_left, x1, x2, x3, x4 => (if x2 ≤ x4 then some (x3, vh_groups, vh_leftLong, vh_words, vh_left) else (if bw_in ((3 * x4)) 24 then (if (vh_left (Int32.toNatClampNeg ((3 * x4)))) = x1 then (f_X5_wouldTake_L28 fu vh_groups vh_leftLong vh_all vh_words vh_left x1 x2 ((x3 + 0)) ((x4 + 1))) else (f_X5_wouldTake_L28 fu vh_groups vh_leftLong vh_all vh_words vh_left x1 x2 ((x3 + 1)) ((x4 + 1)))) else none))
set_option maxHeartbeats 4000000 in
set_option maxRecDepth 100000 in
theorem s_X5_wouldTake_L28 (l : Launch) (g : bwG) (ah ah_all ah_kept ah_history ah_slots ah_isSaved ah_words ah_left ah_seen ah_text ah_signs ah_pauses : Nat) (fu : Nat) : ∀ (vh_historyLong : Int32) (vh_groups : Int32) (vh_leftLong : Int32) (vh_textLong : Int32) (vh_spot : Int32) (vh_read : Int32) (vh_all : Nat → Int32) (vh_words : Nat → Int32) (vh_left : Nat → Int32) (x1 : Int32) (x2 : Int32) (x3 : Int32) (x4 : Int32) (res : Int32 × (Int32) × (Int32) × (Nat → Int32) × (Nat → Int32)), f_X5_wouldTake_L28 fu vh_groups vh_leftLong vh_all vh_words vh_left x1 x2 x3 x4 = some res → bwR l g cX5_wouldTake 5 RX5 "wouldTake" (some .int) ({ frames := 6, cells := 0, slots := 0, locals := 130 } : Room) bwT (bwZ g (fun r w => r = some (.int res.1) ∧ w = [(ah, .inr (5, [.ref ah_all, .ref ah_kept, .ref ah_history, .int vh_historyLong, .ref ah_slots, .ref ah_isSaved, .ref ah_words, .int res.2.1, .ref ah_left, .int res.2.2.1, .ref ah_seen, .ref ah_text, .int vh_textLong, .int vh_spot, .ref ah_signs, .ref ah_pauses, .int vh_read])), (ah_all, .inl (g.2.1, 120, .inl vh_all)), (ah_words, .inl (g.2.1, 24, .inl res.2.2.2.1)), (ah_left, .inl (g.2.1, 24, .inl res.2.2.2.2))]) 0 0) 28 [(0, .ref ah), (1, .int x1), (2, .int x2), (3, .int x3), (4, .int x4)] [] ([(ah, .inr (5, [.ref ah_all, .ref ah_kept, .ref ah_history, .int vh_historyLong, .ref ah_slots, .ref ah_isSaved, .ref ah_words, .int vh_groups, .ref ah_left, .int vh_leftLong, .ref ah_seen, .ref ah_text, .int vh_textLong, .int vh_spot, .ref ah_signs, .ref ah_pauses, .int vh_read])), (ah_all, .inl (g.2.1, 120, .inl vh_all)), (ah_words, .inl (g.2.1, 24, .inl vh_words)), (ah_left, .inl (g.2.1, 24, .inl vh_left))]) 0 0 := by
  induction fu with
  | zero => intro vh_historyLong vh_groups vh_leftLong vh_textLong vh_spot vh_read vh_all vh_words vh_left x1 x2 x3 x4 res hf; exact absurd hf (by intro h; cases h)
  | succ fu ih =>
    intro vh_historyLong vh_groups vh_leftLong vh_textLong vh_spot vh_read vh_all vh_words vh_left x1 x2 x3 x4 res hf
    rw [f_X5_wouldTake_L28] at hf
    refine bw_iload 4 dX5_wouldTake_28 rfl ?_
    refine bw_iload_n 2 dX5_wouldTake_30 rfl rfl ?_
    refine bw_icmp_ge 61 dX5_wouldTake_31 (by decide) (fun c_8 => ?_) (fun c_8 => ?_)
    · have hf := bw_pos c_8 hf
      refine bw_iload_n 3 dX5_wouldTake_61 rfl rfl ?_
      cases Option.some.inj hf
      exact bw_ret rfl rfl (Nat.le_of_ble_eq_true rfl) (Nat.le_of_ble_eq_true rfl) dX5_wouldTake_62 ⟨rfl, rfl⟩
    · have hf := bw_neg c_8 hf
      refine bw_iload_n 3 dX5_wouldTake_34 rfl rfl ?_
      refine bw_aload_n 0 dX5_wouldTake_35 rfl rfl ?_
      refine bw_gf bkX5 0 8 (by decide) fl_X5_28 rfl rfl dX5_wouldTake_36 ?_
      refine bw_iconst 3 dX5_wouldTake_39 (by decide) ?_
      refine bw_iload 4 dX5_wouldTake_40 rfl ?_
      refine bw_imul dX5_wouldTake_42 ?_
      obtain ⟨h_9, hf⟩ := bw_chk hf
      refine bw_iald 3 rfl h_9 dX5_wouldTake_43 ?_
      refine bw_iload_n 1 dX5_wouldTake_44 rfl rfl ?_
      refine bw_icmp_ne 52 dX5_wouldTake_45 (by decide) (fun c_10 => ?_) (fun c_10 => ?_)
      · have hf := bw_neg c_10 hf
        refine bw_iconst 1 dX5_wouldTake_52 (by decide) ?_
        refine bw_iadd dX5_wouldTake_53 ?_
        refine bw_istore_n [(3, .int ((x3 + 1))), (0, .ref ah), (1, .int x1), (2, .int x2), (4, .int x4)] dX5_wouldTake_54 rfl (by decide) rfl ?_
        refine bw_iinc 4 (x4 + 1) [(4, .int ((x4 + 1))), (3, .int ((x3 + 1))), (0, .ref ah), (1, .int x1), (2, .int x2)] dX5_wouldTake_55 rfl rfl (by decide) rfl ?_
        refine bw_goto 28 dX5_wouldTake_58 (by decide) ?_
        refine bw_lv [2, 3, 4, 1, 0] rfl ?_
        exact ih vh_historyLong vh_groups vh_leftLong vh_textLong vh_spot vh_read vh_all vh_words vh_left x1 x2 ((x3 + 1)) ((x4 + 1)) _ hf
      · have hf := bw_pos c_10 hf
        refine bw_iconst 0 dX5_wouldTake_48 (by decide) ?_
        refine bw_goto 53 dX5_wouldTake_49 (by decide) ?_
        refine bw_iadd dX5_wouldTake_53 ?_
        refine bw_istore_n [(3, .int ((x3 + 0))), (0, .ref ah), (1, .int x1), (2, .int x2), (4, .int x4)] dX5_wouldTake_54 rfl (by decide) rfl ?_
        refine bw_iinc 4 (x4 + 1) [(4, .int ((x4 + 1))), (3, .int ((x3 + 0))), (0, .ref ah), (1, .int x1), (2, .int x2)] dX5_wouldTake_55 rfl rfl (by decide) rfl ?_
        refine bw_goto 28 dX5_wouldTake_58 (by decide) ?_
        refine bw_lv [2, 3, 4, 1, 0] rfl ?_
        exact ih vh_historyLong vh_groups vh_leftLong vh_textLong vh_spot vh_read vh_all vh_words vh_left x1 x2 ((x3 + 0)) ((x4 + 1)) _ hf
theorem ar_X5_wouldTake : yX5_wouldTake.cls ≠ "java/lang/invoke/MethodHandle" ∧ yX5_wouldTake.cls ≠ "java/lang/invoke/VarHandle" ∧ (parseMethodDescriptor yX5_wouldTake.desc).map (fun d => d.parameters.length) = some 1 := ⟨by decide, by decide, by decide +kernel⟩
def f_X5_wouldTake (vh_groups : Int32) (vh_leftLong : Int32) (vh_all : Nat → Int32) (vh_words : Nat → Int32) (vh_left : Nat → Int32) (p0 : Int32) : Option (Int32 × (Int32) × (Int32) × (Nat → Int32) × (Nat → Int32)) := ((f_X5_canGive vh_groups vh_leftLong vh_all vh_words vh_left).bind fun q_11 => (if q_11.1 = 0 then some (0, q_11.2.1, q_11.2.2.1, q_11.2.2.2.1, q_11.2.2.2.2) else (if bw_in ((6 + p0)) 120 then ((f_X5_sentences q_11.2.1 q_11.2.2.1 vh_all q_11.2.2.2.1 q_11.2.2.2.2 ((vh_all (Int32.toNatClampNeg ((6 + p0)))))).bind fun q_14 => (f_X5_wouldTake_L28 bw_F q_14.2.1 q_14.2.2.1 vh_all q_14.2.2.2.1 q_14.2.2.2.2 p0 q_14.1 0 0)) else none)))
set_option maxHeartbeats 4000000 in
set_option maxRecDepth 100000 in
theorem s_X5_wouldTake (l : Launch) (g : bwG) (ah ah_all ah_kept ah_history ah_slots ah_isSaved ah_words ah_left ah_seen ah_text ah_signs ah_pauses : Nat) (vh_historyLong : Int32) (vh_groups : Int32) (vh_leftLong : Int32) (vh_textLong : Int32) (vh_spot : Int32) (vh_read : Int32) (vh_all : Nat → Int32) (vh_words : Nat → Int32) (vh_left : Nat → Int32) (p0 : Int32) (res : Int32 × (Int32) × (Int32) × (Nat → Int32) × (Nat → Int32)) (hf : f_X5_wouldTake vh_groups vh_leftLong vh_all vh_words vh_left p0 = some res) : bwS l g yX5_wouldTake cX5_wouldTake 5 (some .int) ({ frames := 6, cells := 0, slots := 0, locals := 130 } : Room) [.ref ah, .int p0] ([(ah, .inr (5, [.ref ah_all, .ref ah_kept, .ref ah_history, .int vh_historyLong, .ref ah_slots, .ref ah_isSaved, .ref ah_words, .int vh_groups, .ref ah_left, .int vh_leftLong, .ref ah_seen, .ref ah_text, .int vh_textLong, .int vh_spot, .ref ah_signs, .ref ah_pauses, .int vh_read])), (ah_all, .inl (g.2.1, 120, .inl vh_all)), (ah_words, .inl (g.2.1, 24, .inl vh_words)), (ah_left, .inl (g.2.1, 24, .inl vh_left))]) (fun r w => r = some (.int res.1) ∧ w = [(ah, .inr (5, [.ref ah_all, .ref ah_kept, .ref ah_history, .int vh_historyLong, .ref ah_slots, .ref ah_isSaved, .ref ah_words, .int res.2.1, .ref ah_left, .int res.2.2.1, .ref ah_seen, .ref ah_text, .int vh_textLong, .int vh_spot, .ref ah_signs, .ref ah_pauses, .int vh_read])), (ah_all, .inl (g.2.1, 120, .inl vh_all)), (ah_words, .inl (g.2.1, 24, .inl res.2.2.2.1)), (ah_left, .inl (g.2.1, 24, .inl res.2.2.2.2))]) := by
  refine bwS_of (by decide) (Nat.le_of_ble_eq_true rfl) ?_
  unfold f_X5_wouldTake at hf
  show bwR l g cX5_wouldTake 5 RX5 "wouldTake" (some .int) ({ frames := 6, cells := 0, slots := 0, locals := 130 } : Room) bwT (bwZ g (fun r w => r = some (.int res.1) ∧ w = [(ah, .inr (5, [.ref ah_all, .ref ah_kept, .ref ah_history, .int vh_historyLong, .ref ah_slots, .ref ah_isSaved, .ref ah_words, .int res.2.1, .ref ah_left, .int res.2.2.1, .ref ah_seen, .ref ah_text, .int vh_textLong, .int vh_spot, .ref ah_signs, .ref ah_pauses, .int vh_read])), (ah_all, .inl (g.2.1, 120, .inl vh_all)), (ah_words, .inl (g.2.1, 24, .inl res.2.2.2.1)), (ah_left, .inl (g.2.1, 24, .inl res.2.2.2.2))]) 0 0) 0 [(0, .ref ah), (1, .int p0)] [] ([(ah, .inr (5, [.ref ah_all, .ref ah_kept, .ref ah_history, .int vh_historyLong, .ref ah_slots, .ref ah_isSaved, .ref ah_words, .int vh_groups, .ref ah_left, .int vh_leftLong, .ref ah_seen, .ref ah_text, .int vh_textLong, .int vh_spot, .ref ah_signs, .ref ah_pauses, .int vh_read])), (ah_all, .inl (g.2.1, 120, .inl vh_all)), (ah_words, .inl (g.2.1, 24, .inl vh_words)), (ah_left, .inl (g.2.1, 24, .inl vh_left))]) 0 0
  refine bw_aload_n 0 dX5_wouldTake_0 rfl rfl ?_
  obtain ⟨q_11, hc_11, hf⟩ := bw_bind hf
  refine bw_callV [] [] [] 0 5 (s_X5_canGive l g ah ah_all ah_kept ah_history ah_slots ah_isSaved ah_words ah_left ah_seen ah_text ah_signs ah_pauses vh_historyLong vh_groups vh_leftLong vh_textLong vh_spot vh_read vh_all vh_words vh_left  _ hc_11) rfl co_X5_canGive ini_X5 ml_X5_147 im_X5_canGive se_X5_canGive ar_X5_canGive ⟨Nat.le_of_ble_eq_true rfl, Nat.le_of_ble_eq_true rfl⟩ ⟨Nat.le_of_ble_eq_true rfl, Nat.le_of_ble_eq_true rfl⟩ rfl rfl (bw_pick1 4 [0, 1, 2, 3] rfl rfl (by decide)) (Nat.le_of_ble_eq_true rfl) dX5_wouldTake_1 (fun r w1 hq => ?_)
  obtain ⟨rfl, rfl⟩ := hq
  refine bw_perm (ws1 := [(ah, .inr (5, [.ref ah_all, .ref ah_kept, .ref ah_history, .int vh_historyLong, .ref ah_slots, .ref ah_isSaved, .ref ah_words, .int q_11.2.1, .ref ah_left, .int q_11.2.2.1, .ref ah_seen, .ref ah_text, .int vh_textLong, .int vh_spot, .ref ah_signs, .ref ah_pauses, .int vh_read])), (ah_all, .inl (g.2.1, 120, .inl vh_all)), (ah_words, .inl (g.2.1, 24, .inl q_11.2.2.2.1)), (ah_left, .inl (g.2.1, 24, .inl q_11.2.2.2.2))]) (bw_pick1 4 [0, 1, 2, 3] rfl rfl (by decide)) ?_
  refine bw_st (st1 := [.int q_11.1]) rfl ?_
  refine bw_if_ne 9 dX5_wouldTake_4 (by decide) (fun c_12 => ?_) (fun c_12 => ?_)
  · have hf := bw_neg c_12 hf
    refine bw_aload_n 0 dX5_wouldTake_9 rfl rfl ?_
    refine bw_aload_n 0 dX5_wouldTake_10 rfl rfl ?_
    refine bw_gf bkX5 0 0 (by decide) fl_X5_7 rfl rfl dX5_wouldTake_11 ?_
    refine bw_bipush 6 dX5_wouldTake_14 (by decide) ?_
    refine bw_iload_n 1 dX5_wouldTake_16 rfl rfl ?_
    refine bw_iadd dX5_wouldTake_17 ?_
    obtain ⟨h_13, hf⟩ := bw_chk hf
    refine bw_iald 1 rfl h_13 dX5_wouldTake_18 ?_
    obtain ⟨q_14, hc_14, hf⟩ := bw_bind hf
    refine bw_callV [.int ((vh_all (Int32.toNatClampNeg ((6 + p0)))))] [] [] 0 5 (s_X5_sentences l g ah ah_all ah_kept ah_history ah_slots ah_isSaved ah_words ah_left ah_seen ah_text ah_signs ah_pauses vh_historyLong q_11.2.1 q_11.2.2.1 vh_textLong vh_spot vh_read vh_all q_11.2.2.2.1 q_11.2.2.2.2 ((vh_all (Int32.toNatClampNeg ((6 + p0))))) _ hc_14) rfl co_X5_sentences ini_X5 ml_X5_102 im_X5_sentences se_X5_sentences ar_X5_sentences ⟨Nat.le_of_ble_eq_true rfl, Nat.le_of_ble_eq_true rfl⟩ ⟨Nat.le_of_ble_eq_true rfl, Nat.le_of_ble_eq_true rfl⟩ rfl rfl (bw_pick1 4 [0, 1, 2, 3] rfl rfl (by decide)) (Nat.le_of_ble_eq_true rfl) dX5_wouldTake_19 (fun r w1 hq => ?_)
    obtain ⟨rfl, rfl⟩ := hq
    refine bw_perm (ws1 := [(ah, .inr (5, [.ref ah_all, .ref ah_kept, .ref ah_history, .int vh_historyLong, .ref ah_slots, .ref ah_isSaved, .ref ah_words, .int q_14.2.1, .ref ah_left, .int q_14.2.2.1, .ref ah_seen, .ref ah_text, .int vh_textLong, .int vh_spot, .ref ah_signs, .ref ah_pauses, .int vh_read])), (ah_all, .inl (g.2.1, 120, .inl vh_all)), (ah_words, .inl (g.2.1, 24, .inl q_14.2.2.2.1)), (ah_left, .inl (g.2.1, 24, .inl q_14.2.2.2.2))]) (bw_pick1 4 [0, 1, 2, 3] rfl rfl (by decide)) ?_
    refine bw_st (st1 := [.int q_14.1]) rfl ?_
    refine bw_istore_n [(2, .int q_14.1), (0, .ref ah), (1, .int p0)] dX5_wouldTake_22 rfl (by decide) rfl ?_
    refine bw_iconst 0 dX5_wouldTake_23 (by decide) ?_
    refine bw_istore_n [(3, .int 0), (2, .int q_14.1), (0, .ref ah), (1, .int p0)] dX5_wouldTake_24 rfl (by decide) rfl ?_
    refine bw_iconst 0 dX5_wouldTake_25 (by decide) ?_
    refine bw_istore [(4, .int 0), (3, .int 0), (2, .int q_14.1), (0, .ref ah), (1, .int p0)] dX5_wouldTake_26 (by decide) rfl ?_
    refine bw_lv [3, 4, 2, 1, 0] rfl ?_
    exact s_X5_wouldTake_L28 l g ah ah_all ah_kept ah_history ah_slots ah_isSaved ah_words ah_left ah_seen ah_text ah_signs ah_pauses bw_F vh_historyLong q_14.2.1 q_14.2.2.1 vh_textLong vh_spot vh_read vh_all q_14.2.2.2.1 q_14.2.2.2.2 p0 q_14.1 0 0 _ hf
  · have hf := bw_pos c_12 hf
    refine bw_iconst 0 dX5_wouldTake_7 (by decide) ?_
    cases Option.some.inj hf
    exact bw_ret rfl rfl (Nat.le_of_ble_eq_true rfl) (Nat.le_of_ble_eq_true rfl) dX5_wouldTake_8 ⟨rfl, rfl⟩
theorem ar_X5_courtier : yX5_courtier.cls ≠ "java/lang/invoke/MethodHandle" ∧ yX5_courtier.cls ≠ "java/lang/invoke/VarHandle" ∧ (parseMethodDescriptor yX5_courtier.desc).map (fun d => d.parameters.length) = some 2 := ⟨by decide, by decide, by decide +kernel⟩
def f_X5_courtier (vh_groups : Int32) (vh_leftLong : Int32) (vh_all : Nat → Int32) (vh_words : Nat → Int32) (vh_left : Nat → Int32) (p0 : Int32) (p1 : Int32) : Option (Int32 × (Int32) × (Int32) × (Nat → Int32) × (Nat → Int32)) := ((f_X5_isCourtier p0).bind fun q_11 => (if q_11 = 0 then some ((-1000001), vh_groups, vh_leftLong, vh_words, vh_left) else (if p1 = 0 then (if bw_in ((6 + p0)) 120 then some ((vh_all (Int32.toNatClampNeg ((6 + p0)))), vh_groups, vh_leftLong, vh_words, vh_left) else none) else (if p1 = 1 then ((f_X5_favours vh_all p0 ((-1))).bind fun q_16 => some (q_16, vh_groups, vh_leftLong, vh_words, vh_left)) else (if p1 = 2 then ((f_X5_favours vh_all ((-1)) p0).bind fun q_18 => some (q_18, vh_groups, vh_leftLong, vh_words, vh_left)) else (if p1 = 3 then ((f_X5_wouldTake vh_groups vh_leftLong vh_all vh_words vh_left p0).bind fun q_20 => some (q_20.1, q_20.2.1, q_20.2.2.1, q_20.2.2.2.1, q_20.2.2.2.2)) else some ((-1000002), vh_groups, vh_leftLong, vh_words, vh_left)))))))
set_option maxHeartbeats 4000000 in
set_option maxRecDepth 100000 in
theorem s_X5_courtier (l : Launch) (g : bwG) (ah ah_all ah_kept ah_history ah_slots ah_isSaved ah_words ah_left ah_seen ah_text ah_signs ah_pauses : Nat) (vh_historyLong : Int32) (vh_groups : Int32) (vh_leftLong : Int32) (vh_textLong : Int32) (vh_spot : Int32) (vh_read : Int32) (vh_all : Nat → Int32) (vh_words : Nat → Int32) (vh_left : Nat → Int32) (p0 : Int32) (p1 : Int32) (res : Int32 × (Int32) × (Int32) × (Nat → Int32) × (Nat → Int32)) (hf : f_X5_courtier vh_groups vh_leftLong vh_all vh_words vh_left p0 p1 = some res) : bwS l g yX5_courtier cX5_courtier 3 (some .int) ({ frames := 7, cells := 0, slots := 0, locals := 154 } : Room) [.ref ah, .int p0, .int p1] ([(ah, .inr (5, [.ref ah_all, .ref ah_kept, .ref ah_history, .int vh_historyLong, .ref ah_slots, .ref ah_isSaved, .ref ah_words, .int vh_groups, .ref ah_left, .int vh_leftLong, .ref ah_seen, .ref ah_text, .int vh_textLong, .int vh_spot, .ref ah_signs, .ref ah_pauses, .int vh_read])), (ah_all, .inl (g.2.1, 120, .inl vh_all)), (ah_words, .inl (g.2.1, 24, .inl vh_words)), (ah_left, .inl (g.2.1, 24, .inl vh_left))]) (fun r w => r = some (.int res.1) ∧ w = [(ah, .inr (5, [.ref ah_all, .ref ah_kept, .ref ah_history, .int vh_historyLong, .ref ah_slots, .ref ah_isSaved, .ref ah_words, .int res.2.1, .ref ah_left, .int res.2.2.1, .ref ah_seen, .ref ah_text, .int vh_textLong, .int vh_spot, .ref ah_signs, .ref ah_pauses, .int vh_read])), (ah_all, .inl (g.2.1, 120, .inl vh_all)), (ah_words, .inl (g.2.1, 24, .inl res.2.2.2.1)), (ah_left, .inl (g.2.1, 24, .inl res.2.2.2.2))]) := by
  refine bwS_of (by decide) (Nat.le_of_ble_eq_true rfl) ?_
  unfold f_X5_courtier at hf
  show bwR l g cX5_courtier 3 RX5 "courtier" (some .int) ({ frames := 7, cells := 0, slots := 0, locals := 154 } : Room) bwT (bwZ g (fun r w => r = some (.int res.1) ∧ w = [(ah, .inr (5, [.ref ah_all, .ref ah_kept, .ref ah_history, .int vh_historyLong, .ref ah_slots, .ref ah_isSaved, .ref ah_words, .int res.2.1, .ref ah_left, .int res.2.2.1, .ref ah_seen, .ref ah_text, .int vh_textLong, .int vh_spot, .ref ah_signs, .ref ah_pauses, .int vh_read])), (ah_all, .inl (g.2.1, 120, .inl vh_all)), (ah_words, .inl (g.2.1, 24, .inl res.2.2.2.1)), (ah_left, .inl (g.2.1, 24, .inl res.2.2.2.2))]) 0 0) 0 [(0, .ref ah), (1, .int p0), (2, .int p1)] [] ([(ah, .inr (5, [.ref ah_all, .ref ah_kept, .ref ah_history, .int vh_historyLong, .ref ah_slots, .ref ah_isSaved, .ref ah_words, .int vh_groups, .ref ah_left, .int vh_leftLong, .ref ah_seen, .ref ah_text, .int vh_textLong, .int vh_spot, .ref ah_signs, .ref ah_pauses, .int vh_read])), (ah_all, .inl (g.2.1, 120, .inl vh_all)), (ah_words, .inl (g.2.1, 24, .inl vh_words)), (ah_left, .inl (g.2.1, 24, .inl vh_left))]) 0 0
  refine bw_iload_n 1 dX5_courtier_0 rfl rfl ?_
  obtain ⟨q_11, hc_11, hf⟩ := bw_bind hf
  refine bw_callS [.int p0] [] [(ah, .inr (5, [.ref ah_all, .ref ah_kept, .ref ah_history, .int vh_historyLong, .ref ah_slots, .ref ah_isSaved, .ref ah_words, .int vh_groups, .ref ah_left, .int vh_leftLong, .ref ah_seen, .ref ah_text, .int vh_textLong, .int vh_spot, .ref ah_signs, .ref ah_pauses, .int vh_read])), (ah_all, .inl (g.2.1, 120, .inl vh_all)), (ah_words, .inl (g.2.1, 24, .inl vh_words)), (ah_left, .inl (g.2.1, 24, .inl vh_left))] (s_X5_isCourtier l g   p0 _ hc_11) rfl co_X5_isCourtier ini_X5 ml_X5_78 st_X5_isCourtier ar_X5_isCourtier ⟨Nat.le_of_ble_eq_true rfl, Nat.le_of_ble_eq_true rfl⟩ ⟨Nat.le_of_ble_eq_true rfl, Nat.le_of_ble_eq_true rfl⟩ (bw_pick1 4 [0, 1, 2, 3] rfl rfl (by decide)) (Nat.le_of_ble_eq_true rfl) dX5_courtier_1 (fun r w1 hq => ?_)
  obtain ⟨rfl, rfl⟩ := hq
  refine bw_perm (ws1 := [(ah, .inr (5, [.ref ah_all, .ref ah_kept, .ref ah_history, .int vh_historyLong, .ref ah_slots, .ref ah_isSaved, .ref ah_words, .int vh_groups, .ref ah_left, .int vh_leftLong, .ref ah_seen, .ref ah_text, .int vh_textLong, .int vh_spot, .ref ah_signs, .ref ah_pauses, .int vh_read])), (ah_all, .inl (g.2.1, 120, .inl vh_all)), (ah_words, .inl (g.2.1, 24, .inl vh_words)), (ah_left, .inl (g.2.1, 24, .inl vh_left))]) (bw_pick1 4 [0, 1, 2, 3] rfl rfl (by decide)) ?_
  refine bw_st (st1 := [.int q_11]) rfl ?_
  refine bw_if_ne 10 dX5_courtier_4 (by decide) (fun c_12 => ?_) (fun c_12 => ?_)
  · have hf := bw_neg c_12 hf
    refine bw_iload_n 2 dX5_courtier_10 rfl rfl ?_
    rcases Decidable.em (p1 = 0) with c_13 | c_13
    · have hf := bw_pos c_13 hf
      refine bw_tableIn (off := 29) 40 dX5_courtier_11 (by rw [c_13]; decide) (by rw [c_13]; decide) (by rw [c_13]; rfl) (by decide) ?_
      refine bw_aload_n 0 dX5_courtier_40 rfl rfl ?_
      refine bw_gf bkX5 0 0 (by decide) fl_X5_7 rfl rfl dX5_courtier_41 ?_
      refine bw_bipush 6 dX5_courtier_44 (by decide) ?_
      refine bw_iload_n 1 dX5_courtier_46 rfl rfl ?_
      refine bw_iadd dX5_courtier_47 ?_
      obtain ⟨h_14, hf⟩ := bw_chk hf
      refine bw_iald 1 rfl h_14 dX5_courtier_48 ?_
      cases Option.some.inj hf
      exact bw_ret rfl rfl (Nat.le_of_ble_eq_true rfl) (Nat.le_of_ble_eq_true rfl) dX5_courtier_49 ⟨rfl, rfl⟩
    · have hf := bw_neg c_13 hf
      rcases Decidable.em (p1 = 1) with c_15 | c_15
      · have hf := bw_pos c_15 hf
        refine bw_tableIn (off := 39) 50 dX5_courtier_11 (by rw [c_15]; decide) (by rw [c_15]; decide) (by rw [c_15]; rfl) (by decide) ?_
        refine bw_aload_n 0 dX5_courtier_50 rfl rfl ?_
        refine bw_iload_n 1 dX5_courtier_51 rfl rfl ?_
        refine bw_iconst (-1) dX5_courtier_52 (by decide) ?_
        obtain ⟨q_16, hc_16, hf⟩ := bw_bind hf
        refine bw_callV [.int p0, .int ((-1))] [] [(ah_words, .inl (g.2.1, 24, .inl vh_words)), (ah_left, .inl (g.2.1, 24, .inl vh_left))] 0 5 (s_X5_favours l g ah ah_all ah_kept ah_history ah_slots ah_isSaved ah_words ah_left ah_seen ah_text ah_signs ah_pauses vh_historyLong vh_groups vh_leftLong vh_textLong vh_spot vh_read vh_all p0 ((-1)) _ hc_16) rfl co_X5_favours ini_X5 ml_X5_162 im_X5_favours se_X5_favours ar_X5_favours ⟨Nat.le_of_ble_eq_true rfl, Nat.le_of_ble_eq_true rfl⟩ ⟨Nat.le_of_ble_eq_true rfl, Nat.le_of_ble_eq_true rfl⟩ rfl rfl (bw_pick1 4 [0, 1, 2, 3] rfl rfl (by decide)) (Nat.le_of_ble_eq_true rfl) dX5_courtier_53 (fun r w1 hq => ?_)
        obtain ⟨rfl, rfl⟩ := hq
        refine bw_perm (ws1 := [(ah, .inr (5, [.ref ah_all, .ref ah_kept, .ref ah_history, .int vh_historyLong, .ref ah_slots, .ref ah_isSaved, .ref ah_words, .int vh_groups, .ref ah_left, .int vh_leftLong, .ref ah_seen, .ref ah_text, .int vh_textLong, .int vh_spot, .ref ah_signs, .ref ah_pauses, .int vh_read])), (ah_all, .inl (g.2.1, 120, .inl vh_all)), (ah_words, .inl (g.2.1, 24, .inl vh_words)), (ah_left, .inl (g.2.1, 24, .inl vh_left))]) (bw_pick1 4 [2, 3, 0, 1] rfl rfl (by decide)) ?_
        refine bw_st (st1 := [.int q_16]) rfl ?_
        cases Option.some.inj hf
        exact bw_ret rfl rfl (Nat.le_of_ble_eq_true rfl) (Nat.le_of_ble_eq_true rfl) dX5_courtier_56 ⟨rfl, rfl⟩
      · have hf := bw_neg c_15 hf
        rcases Decidable.em (p1 = 2) with c_17 | c_17
        · have hf := bw_pos c_17 hf
          refine bw_tableIn (off := 46) 57 dX5_courtier_11 (by rw [c_17]; decide) (by rw [c_17]; decide) (by rw [c_17]; rfl) (by decide) ?_
          refine bw_aload_n 0 dX5_courtier_57 rfl rfl ?_
          refine bw_iconst (-1) dX5_courtier_58 (by decide) ?_
          refine bw_iload_n 1 dX5_courtier_59 rfl rfl ?_
          obtain ⟨q_18, hc_18, hf⟩ := bw_bind hf
          refine bw_callV [.int ((-1)), .int p0] [] [(ah_words, .inl (g.2.1, 24, .inl vh_words)), (ah_left, .inl (g.2.1, 24, .inl vh_left))] 0 5 (s_X5_favours l g ah ah_all ah_kept ah_history ah_slots ah_isSaved ah_words ah_left ah_seen ah_text ah_signs ah_pauses vh_historyLong vh_groups vh_leftLong vh_textLong vh_spot vh_read vh_all ((-1)) p0 _ hc_18) rfl co_X5_favours ini_X5 ml_X5_162 im_X5_favours se_X5_favours ar_X5_favours ⟨Nat.le_of_ble_eq_true rfl, Nat.le_of_ble_eq_true rfl⟩ ⟨Nat.le_of_ble_eq_true rfl, Nat.le_of_ble_eq_true rfl⟩ rfl rfl (bw_pick1 4 [0, 1, 2, 3] rfl rfl (by decide)) (Nat.le_of_ble_eq_true rfl) dX5_courtier_60 (fun r w1 hq => ?_)
          obtain ⟨rfl, rfl⟩ := hq
          refine bw_perm (ws1 := [(ah, .inr (5, [.ref ah_all, .ref ah_kept, .ref ah_history, .int vh_historyLong, .ref ah_slots, .ref ah_isSaved, .ref ah_words, .int vh_groups, .ref ah_left, .int vh_leftLong, .ref ah_seen, .ref ah_text, .int vh_textLong, .int vh_spot, .ref ah_signs, .ref ah_pauses, .int vh_read])), (ah_all, .inl (g.2.1, 120, .inl vh_all)), (ah_words, .inl (g.2.1, 24, .inl vh_words)), (ah_left, .inl (g.2.1, 24, .inl vh_left))]) (bw_pick1 4 [2, 3, 0, 1] rfl rfl (by decide)) ?_
          refine bw_st (st1 := [.int q_18]) rfl ?_
          cases Option.some.inj hf
          exact bw_ret rfl rfl (Nat.le_of_ble_eq_true rfl) (Nat.le_of_ble_eq_true rfl) dX5_courtier_63 ⟨rfl, rfl⟩
        · have hf := bw_neg c_17 hf
          rcases Decidable.em (p1 = 3) with c_19 | c_19
          · have hf := bw_pos c_19 hf
            refine bw_tableIn (off := 53) 64 dX5_courtier_11 (by rw [c_19]; decide) (by rw [c_19]; decide) (by rw [c_19]; rfl) (by decide) ?_
            refine bw_aload_n 0 dX5_courtier_64 rfl rfl ?_
            refine bw_iload_n 1 dX5_courtier_65 rfl rfl ?_
            obtain ⟨q_20, hc_20, hf⟩ := bw_bind hf
            refine bw_callV [.int p0] [] [] 0 5 (s_X5_wouldTake l g ah ah_all ah_kept ah_history ah_slots ah_isSaved ah_words ah_left ah_seen ah_text ah_signs ah_pauses vh_historyLong vh_groups vh_leftLong vh_textLong vh_spot vh_read vh_all vh_words vh_left p0 _ hc_20) rfl co_X5_wouldTake ini_X5 ml_X5_165 im_X5_wouldTake se_X5_wouldTake ar_X5_wouldTake ⟨Nat.le_of_ble_eq_true rfl, Nat.le_of_ble_eq_true rfl⟩ ⟨Nat.le_of_ble_eq_true rfl, Nat.le_of_ble_eq_true rfl⟩ rfl rfl (bw_pick1 4 [0, 1, 2, 3] rfl rfl (by decide)) (Nat.le_of_ble_eq_true rfl) dX5_courtier_66 (fun r w1 hq => ?_)
            obtain ⟨rfl, rfl⟩ := hq
            refine bw_perm (ws1 := [(ah, .inr (5, [.ref ah_all, .ref ah_kept, .ref ah_history, .int vh_historyLong, .ref ah_slots, .ref ah_isSaved, .ref ah_words, .int q_20.2.1, .ref ah_left, .int q_20.2.2.1, .ref ah_seen, .ref ah_text, .int vh_textLong, .int vh_spot, .ref ah_signs, .ref ah_pauses, .int vh_read])), (ah_all, .inl (g.2.1, 120, .inl vh_all)), (ah_words, .inl (g.2.1, 24, .inl q_20.2.2.2.1)), (ah_left, .inl (g.2.1, 24, .inl q_20.2.2.2.2))]) (bw_pick1 4 [0, 1, 2, 3] rfl rfl (by decide)) ?_
            refine bw_st (st1 := [.int q_20.1]) rfl ?_
            cases Option.some.inj hf
            exact bw_ret rfl rfl (Nat.le_of_ble_eq_true rfl) (Nat.le_of_ble_eq_true rfl) dX5_courtier_69 ⟨rfl, rfl⟩
          · have hf := bw_neg c_19 hf
            refine bw_tableOut 70 dX5_courtier_11 (bw_out4_0 c_13 c_15 c_17 c_19) (by decide) ?_
            refine bw_ldc ct_X5_121 dX5_courtier_70 ?_
            cases Option.some.inj hf
            exact bw_ret rfl rfl (Nat.le_of_ble_eq_true rfl) (Nat.le_of_ble_eq_true rfl) dX5_courtier_72 ⟨rfl, rfl⟩
  · have hf := bw_pos c_12 hf
    refine bw_ldc ct_X5_125 dX5_courtier_7 ?_
    cases Option.some.inj hf
    exact bw_ret rfl rfl (Nat.le_of_ble_eq_true rfl) (Nat.le_of_ble_eq_true rfl) dX5_courtier_9 ⟨rfl, rfl⟩
theorem ar_X5_ifGiven : yX5_ifGiven.cls ≠ "java/lang/invoke/MethodHandle" ∧ yX5_ifGiven.cls ≠ "java/lang/invoke/VarHandle" ∧ (parseMethodDescriptor yX5_ifGiven.desc).map (fun d => d.parameters.length) = some 2 := ⟨by decide, by decide, by decide +kernel⟩
def f_X5_ifGiven (vh_groups : Int32) (vh_leftLong : Int32) (vh_all : Nat → Int32) (vh_kept : Nat → Int32) (vh_words : Nat → Int32) (vh_left : Nat → Int32) (p0 : Int32) (p1 : Int32) : Option (Int32 × (Int32) × (Int32) × (Nat → Int32) × (Nat → Int32) × (Nat → Int32) × (Nat → Int32)) := ((f_X5_isCourtier p0).bind fun q_12 => (if q_12 = 0 then some ((-1000001), vh_groups, vh_leftLong, vh_all, vh_kept, vh_words, vh_left) else ((f_X5_isCourtier p1).bind fun q_14 => (if q_14 = 0 then some ((-1000001), vh_groups, vh_leftLong, vh_all, vh_kept, vh_words, vh_left) else ((f_X5_canGive vh_groups vh_leftLong vh_all vh_words vh_left).bind fun q_16 => (if q_16.1 = 0 then some ((-1000005), q_16.2.1, q_16.2.2.1, vh_all, vh_kept, q_16.2.2.2.1, q_16.2.2.2.2) else ((f_X5_keeps vh_all vh_kept).bind fun q_18 => ((f_X5_gives q_16.2.1 q_16.2.2.1 vh_all q_16.2.2.2.1 q_16.2.2.2.2).bind fun q_19 => ((f_X5_at p0 p1).bind fun q_20 => (if bw_in q_20 120 then ((f_X5_comesBack q_19.2.2.2.1 q_18).bind fun q_22 => some ((q_19.2.2.2.1 (Int32.toNatClampNeg q_20)), q_19.2.1, q_19.2.2.1, q_22, q_18, q_19.2.2.2.2.1, q_19.2.2.2.2.2)) else none))))))))))
set_option maxHeartbeats 4000000 in
set_option maxRecDepth 100000 in
theorem s_X5_ifGiven (l : Launch) (g : bwG) (ah ah_all ah_kept ah_history ah_slots ah_isSaved ah_words ah_left ah_seen ah_text ah_signs ah_pauses : Nat) (vh_historyLong : Int32) (vh_groups : Int32) (vh_leftLong : Int32) (vh_textLong : Int32) (vh_spot : Int32) (vh_read : Int32) (vh_all : Nat → Int32) (vh_kept : Nat → Int32) (vh_words : Nat → Int32) (vh_left : Nat → Int32) (p0 : Int32) (p1 : Int32) (res : Int32 × (Int32) × (Int32) × (Nat → Int32) × (Nat → Int32) × (Nat → Int32) × (Nat → Int32)) (hf : f_X5_ifGiven vh_groups vh_leftLong vh_all vh_kept vh_words vh_left p0 p1 = some res) : bwS l g yX5_ifGiven cX5_ifGiven 5 (some .int) ({ frames := 7, cells := 0, slots := 0, locals := 156 } : Room) [.ref ah, .int p0, .int p1] ([(ah, .inr (5, [.ref ah_all, .ref ah_kept, .ref ah_history, .int vh_historyLong, .ref ah_slots, .ref ah_isSaved, .ref ah_words, .int vh_groups, .ref ah_left, .int vh_leftLong, .ref ah_seen, .ref ah_text, .int vh_textLong, .int vh_spot, .ref ah_signs, .ref ah_pauses, .int vh_read])), (ah_all, .inl (g.2.1, 120, .inl vh_all)), (ah_kept, .inl (g.2.1, 120, .inl vh_kept)), (ah_words, .inl (g.2.1, 24, .inl vh_words)), (ah_left, .inl (g.2.1, 24, .inl vh_left))]) (fun r w => r = some (.int res.1) ∧ w = [(ah, .inr (5, [.ref ah_all, .ref ah_kept, .ref ah_history, .int vh_historyLong, .ref ah_slots, .ref ah_isSaved, .ref ah_words, .int res.2.1, .ref ah_left, .int res.2.2.1, .ref ah_seen, .ref ah_text, .int vh_textLong, .int vh_spot, .ref ah_signs, .ref ah_pauses, .int vh_read])), (ah_all, .inl (g.2.1, 120, .inl res.2.2.2.1)), (ah_kept, .inl (g.2.1, 120, .inl res.2.2.2.2.1)), (ah_words, .inl (g.2.1, 24, .inl res.2.2.2.2.2.1)), (ah_left, .inl (g.2.1, 24, .inl res.2.2.2.2.2.2))]) := by
  refine bwS_of (by decide) (Nat.le_of_ble_eq_true rfl) ?_
  unfold f_X5_ifGiven at hf
  show bwR l g cX5_ifGiven 5 RX5 "ifGiven" (some .int) ({ frames := 7, cells := 0, slots := 0, locals := 156 } : Room) bwT (bwZ g (fun r w => r = some (.int res.1) ∧ w = [(ah, .inr (5, [.ref ah_all, .ref ah_kept, .ref ah_history, .int vh_historyLong, .ref ah_slots, .ref ah_isSaved, .ref ah_words, .int res.2.1, .ref ah_left, .int res.2.2.1, .ref ah_seen, .ref ah_text, .int vh_textLong, .int vh_spot, .ref ah_signs, .ref ah_pauses, .int vh_read])), (ah_all, .inl (g.2.1, 120, .inl res.2.2.2.1)), (ah_kept, .inl (g.2.1, 120, .inl res.2.2.2.2.1)), (ah_words, .inl (g.2.1, 24, .inl res.2.2.2.2.2.1)), (ah_left, .inl (g.2.1, 24, .inl res.2.2.2.2.2.2))]) 0 0) 0 [(0, .ref ah), (1, .int p0), (2, .int p1)] [] ([(ah, .inr (5, [.ref ah_all, .ref ah_kept, .ref ah_history, .int vh_historyLong, .ref ah_slots, .ref ah_isSaved, .ref ah_words, .int vh_groups, .ref ah_left, .int vh_leftLong, .ref ah_seen, .ref ah_text, .int vh_textLong, .int vh_spot, .ref ah_signs, .ref ah_pauses, .int vh_read])), (ah_all, .inl (g.2.1, 120, .inl vh_all)), (ah_kept, .inl (g.2.1, 120, .inl vh_kept)), (ah_words, .inl (g.2.1, 24, .inl vh_words)), (ah_left, .inl (g.2.1, 24, .inl vh_left))]) 0 0
  refine bw_iload_n 1 dX5_ifGiven_0 rfl rfl ?_
  obtain ⟨q_12, hc_12, hf⟩ := bw_bind hf
  refine bw_callS [.int p0] [] [(ah, .inr (5, [.ref ah_all, .ref ah_kept, .ref ah_history, .int vh_historyLong, .ref ah_slots, .ref ah_isSaved, .ref ah_words, .int vh_groups, .ref ah_left, .int vh_leftLong, .ref ah_seen, .ref ah_text, .int vh_textLong, .int vh_spot, .ref ah_signs, .ref ah_pauses, .int vh_read])), (ah_all, .inl (g.2.1, 120, .inl vh_all)), (ah_kept, .inl (g.2.1, 120, .inl vh_kept)), (ah_words, .inl (g.2.1, 24, .inl vh_words)), (ah_left, .inl (g.2.1, 24, .inl vh_left))] (s_X5_isCourtier l g   p0 _ hc_12) rfl co_X5_isCourtier ini_X5 ml_X5_78 st_X5_isCourtier ar_X5_isCourtier ⟨Nat.le_of_ble_eq_true rfl, Nat.le_of_ble_eq_true rfl⟩ ⟨Nat.le_of_ble_eq_true rfl, Nat.le_of_ble_eq_true rfl⟩ (bw_pick1 5 [0, 1, 2, 3, 4] rfl rfl (by decide)) (Nat.le_of_ble_eq_true rfl) dX5_ifGiven_1 (fun r w1 hq => ?_)
  obtain ⟨rfl, rfl⟩ := hq
  refine bw_perm (ws1 := [(ah, .inr (5, [.ref ah_all, .ref ah_kept, .ref ah_history, .int vh_historyLong, .ref ah_slots, .ref ah_isSaved, .ref ah_words, .int vh_groups, .ref ah_left, .int vh_leftLong, .ref ah_seen, .ref ah_text, .int vh_textLong, .int vh_spot, .ref ah_signs, .ref ah_pauses, .int vh_read])), (ah_all, .inl (g.2.1, 120, .inl vh_all)), (ah_kept, .inl (g.2.1, 120, .inl vh_kept)), (ah_words, .inl (g.2.1, 24, .inl vh_words)), (ah_left, .inl (g.2.1, 24, .inl vh_left))]) (bw_pick1 5 [0, 1, 2, 3, 4] rfl rfl (by decide)) ?_
  refine bw_st (st1 := [.int q_12]) rfl ?_
  refine bw_if_eq 14 dX5_ifGiven_4 (by decide) (fun c_13 => ?_) (fun c_13 => ?_)
  · have hf := bw_pos c_13 hf
    refine bw_ldc ct_X5_125 dX5_ifGiven_14 ?_
    cases Option.some.inj hf
    exact bw_ret rfl rfl (Nat.le_of_ble_eq_true rfl) (Nat.le_of_ble_eq_true rfl) dX5_ifGiven_16 ⟨rfl, rfl⟩
  · have hf := bw_neg c_13 hf
    refine bw_iload_n 2 dX5_ifGiven_7 rfl rfl ?_
    obtain ⟨q_14, hc_14, hf⟩ := bw_bind hf
    refine bw_callS [.int p1] [] [(ah, .inr (5, [.ref ah_all, .ref ah_kept, .ref ah_history, .int vh_historyLong, .ref ah_slots, .ref ah_isSaved, .ref ah_words, .int vh_groups, .ref ah_left, .int vh_leftLong, .ref ah_seen, .ref ah_text, .int vh_textLong, .int vh_spot, .ref ah_signs, .ref ah_pauses, .int vh_read])), (ah_all, .inl (g.2.1, 120, .inl vh_all)), (ah_kept, .inl (g.2.1, 120, .inl vh_kept)), (ah_words, .inl (g.2.1, 24, .inl vh_words)), (ah_left, .inl (g.2.1, 24, .inl vh_left))] (s_X5_isCourtier l g   p1 _ hc_14) rfl co_X5_isCourtier ini_X5 ml_X5_78 st_X5_isCourtier ar_X5_isCourtier ⟨Nat.le_of_ble_eq_true rfl, Nat.le_of_ble_eq_true rfl⟩ ⟨Nat.le_of_ble_eq_true rfl, Nat.le_of_ble_eq_true rfl⟩ (bw_pick1 5 [0, 1, 2, 3, 4] rfl rfl (by decide)) (Nat.le_of_ble_eq_true rfl) dX5_ifGiven_8 (fun r w1 hq => ?_)
    obtain ⟨rfl, rfl⟩ := hq
    refine bw_perm (ws1 := [(ah, .inr (5, [.ref ah_all, .ref ah_kept, .ref ah_history, .int vh_historyLong, .ref ah_slots, .ref ah_isSaved, .ref ah_words, .int vh_groups, .ref ah_left, .int vh_leftLong, .ref ah_seen, .ref ah_text, .int vh_textLong, .int vh_spot, .ref ah_signs, .ref ah_pauses, .int vh_read])), (ah_all, .inl (g.2.1, 120, .inl vh_all)), (ah_kept, .inl (g.2.1, 120, .inl vh_kept)), (ah_words, .inl (g.2.1, 24, .inl vh_words)), (ah_left, .inl (g.2.1, 24, .inl vh_left))]) (bw_pick1 5 [0, 1, 2, 3, 4] rfl rfl (by decide)) ?_
    refine bw_st (st1 := [.int q_14]) rfl ?_
    refine bw_if_ne 17 dX5_ifGiven_11 (by decide) (fun c_15 => ?_) (fun c_15 => ?_)
    · have hf := bw_neg c_15 hf
      refine bw_aload_n 0 dX5_ifGiven_17 rfl rfl ?_
      obtain ⟨q_16, hc_16, hf⟩ := bw_bind hf
      refine bw_callV [] [] [(ah_kept, .inl (g.2.1, 120, .inl vh_kept))] 0 5 (s_X5_canGive l g ah ah_all ah_kept ah_history ah_slots ah_isSaved ah_words ah_left ah_seen ah_text ah_signs ah_pauses vh_historyLong vh_groups vh_leftLong vh_textLong vh_spot vh_read vh_all vh_words vh_left  _ hc_16) rfl co_X5_canGive ini_X5 ml_X5_147 im_X5_canGive se_X5_canGive ar_X5_canGive ⟨Nat.le_of_ble_eq_true rfl, Nat.le_of_ble_eq_true rfl⟩ ⟨Nat.le_of_ble_eq_true rfl, Nat.le_of_ble_eq_true rfl⟩ rfl rfl (bw_pick1 5 [0, 1, 3, 4, 2] rfl rfl (by decide)) (Nat.le_of_ble_eq_true rfl) dX5_ifGiven_18 (fun r w1 hq => ?_)
      obtain ⟨rfl, rfl⟩ := hq
      refine bw_perm (ws1 := [(ah, .inr (5, [.ref ah_all, .ref ah_kept, .ref ah_history, .int vh_historyLong, .ref ah_slots, .ref ah_isSaved, .ref ah_words, .int q_16.2.1, .ref ah_left, .int q_16.2.2.1, .ref ah_seen, .ref ah_text, .int vh_textLong, .int vh_spot, .ref ah_signs, .ref ah_pauses, .int vh_read])), (ah_all, .inl (g.2.1, 120, .inl vh_all)), (ah_kept, .inl (g.2.1, 120, .inl vh_kept)), (ah_words, .inl (g.2.1, 24, .inl q_16.2.2.2.1)), (ah_left, .inl (g.2.1, 24, .inl q_16.2.2.2.2))]) (bw_pick1 5 [1, 2, 0, 3, 4] rfl rfl (by decide)) ?_
      refine bw_st (st1 := [.int q_16.1]) rfl ?_
      refine bw_if_ne 27 dX5_ifGiven_21 (by decide) (fun c_17 => ?_) (fun c_17 => ?_)
      · have hf := bw_neg c_17 hf
        refine bw_aload_n 0 dX5_ifGiven_27 rfl rfl ?_
        obtain ⟨q_18, hc_18, hf⟩ := bw_bind hf
        refine bw_callV [] [] [(ah_words, .inl (g.2.1, 24, .inl q_16.2.2.2.1)), (ah_left, .inl (g.2.1, 24, .inl q_16.2.2.2.2))] 0 5 (s_X5_keeps l g ah ah_all ah_kept ah_history ah_slots ah_isSaved ah_words ah_left ah_seen ah_text ah_signs ah_pauses vh_historyLong q_16.2.1 q_16.2.2.1 vh_textLong vh_spot vh_read vh_all vh_kept  _ hc_18) rfl co_X5_keeps ini_X5 ml_X5_168 im_X5_keeps se_X5_keeps ar_X5_keeps ⟨Nat.le_of_ble_eq_true rfl, Nat.le_of_ble_eq_true rfl⟩ ⟨Nat.le_of_ble_eq_true rfl, Nat.le_of_ble_eq_true rfl⟩ rfl rfl (bw_pick1 5 [0, 1, 2, 3, 4] rfl rfl (by decide)) (Nat.le_of_ble_eq_true rfl) dX5_ifGiven_28 (fun r w1 hq => ?_)
        obtain ⟨rfl, rfl⟩ := hq
        refine bw_perm (ws1 := [(ah, .inr (5, [.ref ah_all, .ref ah_kept, .ref ah_history, .int vh_historyLong, .ref ah_slots, .ref ah_isSaved, .ref ah_words, .int q_16.2.1, .ref ah_left, .int q_16.2.2.1, .ref ah_seen, .ref ah_text, .int vh_textLong, .int vh_spot, .ref ah_signs, .ref ah_pauses, .int vh_read])), (ah_all, .inl (g.2.1, 120, .inl vh_all)), (ah_kept, .inl (g.2.1, 120, .inl q_18)), (ah_words, .inl (g.2.1, 24, .inl q_16.2.2.2.1)), (ah_left, .inl (g.2.1, 24, .inl q_16.2.2.2.2))]) (bw_pick1 5 [2, 3, 4, 0, 1] rfl rfl (by decide)) ?_
        refine bw_st (st1 := []) rfl ?_
        refine bw_aload_n 0 dX5_ifGiven_31 rfl rfl ?_
        obtain ⟨q_19, hc_19, hf⟩ := bw_bind hf
        refine bw_callV [] [] [(ah_kept, .inl (g.2.1, 120, .inl q_18))] 0 5 (s_X5_gives l g ah ah_all ah_kept ah_history ah_slots ah_isSaved ah_words ah_left ah_seen ah_text ah_signs ah_pauses vh_historyLong q_16.2.1 q_16.2.2.1 vh_textLong vh_spot vh_read vh_all q_16.2.2.2.1 q_16.2.2.2.2  _ hc_19) rfl co_X5_gives ini_X5 ml_X5_150 im_X5_gives se_X5_gives ar_X5_gives ⟨Nat.le_of_ble_eq_true rfl, Nat.le_of_ble_eq_true rfl⟩ ⟨Nat.le_of_ble_eq_true rfl, Nat.le_of_ble_eq_true rfl⟩ rfl rfl (bw_pick1 5 [0, 1, 3, 4, 2] rfl rfl (by decide)) (Nat.le_of_ble_eq_true rfl) dX5_ifGiven_32 (fun r w1 hq => ?_)
        obtain ⟨rfl, rfl⟩ := hq
        refine bw_perm (ws1 := [(ah, .inr (5, [.ref ah_all, .ref ah_kept, .ref ah_history, .int vh_historyLong, .ref ah_slots, .ref ah_isSaved, .ref ah_words, .int q_19.2.1, .ref ah_left, .int q_19.2.2.1, .ref ah_seen, .ref ah_text, .int vh_textLong, .int vh_spot, .ref ah_signs, .ref ah_pauses, .int vh_read])), (ah_all, .inl (g.2.1, 120, .inl q_19.2.2.2.1)), (ah_kept, .inl (g.2.1, 120, .inl q_18)), (ah_words, .inl (g.2.1, 24, .inl q_19.2.2.2.2.1)), (ah_left, .inl (g.2.1, 24, .inl q_19.2.2.2.2.2))]) (bw_pick1 5 [1, 2, 0, 3, 4] rfl rfl (by decide)) ?_
        refine bw_st (st1 := [.int q_19.1]) rfl ?_
        refine bw_istore_n [(3, .int q_19.1), (0, .ref ah), (1, .int p0), (2, .int p1)] dX5_ifGiven_35 rfl (by decide) rfl ?_
        refine bw_aload_n 1 dX5_ifGiven_36 rfl rfl ?_
        refine bw_gf bkX5 0 0 (by decide) fl_X5_7 rfl rfl dX5_ifGiven_37 ?_
        refine bw_iload_n 2 dX5_ifGiven_40 rfl rfl ?_
        refine bw_iload_n 3 dX5_ifGiven_41 rfl rfl ?_
        obtain ⟨q_20, hc_20, hf⟩ := bw_bind hf
        refine bw_callS [.int p0, .int p1] [.ref ah_all] [(ah, .inr (5, [.ref ah_all, .ref ah_kept, .ref ah_history, .int vh_historyLong, .ref ah_slots, .ref ah_isSaved, .ref ah_words, .int q_19.2.1, .ref ah_left, .int q_19.2.2.1, .ref ah_seen, .ref ah_text, .int vh_textLong, .int vh_spot, .ref ah_signs, .ref ah_pauses, .int vh_read])), (ah_all, .inl (g.2.1, 120, .inl q_19.2.2.2.1)), (ah_kept, .inl (g.2.1, 120, .inl q_18)), (ah_words, .inl (g.2.1, 24, .inl q_19.2.2.2.2.1)), (ah_left, .inl (g.2.1, 24, .inl q_19.2.2.2.2.2))] (s_X5_at l g   p0 p1 _ hc_20) rfl co_X5_at ini_X5 ml_X5_99 st_X5_at ar_X5_at ⟨Nat.le_of_ble_eq_true rfl, Nat.le_of_ble_eq_true rfl⟩ ⟨Nat.le_of_ble_eq_true rfl, Nat.le_of_ble_eq_true rfl⟩ (bw_pick1 5 [0, 1, 2, 3, 4] rfl rfl (by decide)) (Nat.le_of_ble_eq_true rfl) dX5_ifGiven_42 (fun r w1 hq => ?_)
        obtain ⟨rfl, rfl⟩ := hq
        refine bw_perm (ws1 := [(ah, .inr (5, [.ref ah_all, .ref ah_kept, .ref ah_history, .int vh_historyLong, .ref ah_slots, .ref ah_isSaved, .ref ah_words, .int q_19.2.1, .ref ah_left, .int q_19.2.2.1, .ref ah_seen, .ref ah_text, .int vh_textLong, .int vh_spot, .ref ah_signs, .ref ah_pauses, .int vh_read])), (ah_all, .inl (g.2.1, 120, .inl q_19.2.2.2.1)), (ah_kept, .inl (g.2.1, 120, .inl q_18)), (ah_words, .inl (g.2.1, 24, .inl q_19.2.2.2.2.1)), (ah_left, .inl (g.2.1, 24, .inl q_19.2.2.2.2.2))]) (bw_pick1 5 [0, 1, 2, 3, 4] rfl rfl (by decide)) ?_
        refine bw_st (st1 := [.int q_20, .ref ah_all]) rfl ?_
        obtain ⟨h_21, hf⟩ := bw_chk hf
        refine bw_iald 1 rfl h_21 dX5_ifGiven_45 ?_
        refine bw_istore [(4, .int ((q_19.2.2.2.1 (Int32.toNatClampNeg q_20)))), (3, .int q_19.1), (0, .ref ah), (1, .int p0), (2, .int p1)] dX5_ifGiven_46 (by decide) rfl ?_
        refine bw_aload_n 2 dX5_ifGiven_48 rfl rfl ?_
        obtain ⟨q_22, hc_22, hf⟩ := bw_bind hf
        refine bw_callV [] [] [(ah_words, .inl (g.2.1, 24, .inl q_19.2.2.2.2.1)), (ah_left, .inl (g.2.1, 24, .inl q_19.2.2.2.2.2))] 0 5 (s_X5_comesBack l g ah ah_all ah_kept ah_history ah_slots ah_isSaved ah_words ah_left ah_seen ah_text ah_signs ah_pauses vh_historyLong q_19.2.1 q_19.2.2.1 vh_textLong vh_spot vh_read q_19.2.2.2.1 q_18  _ hc_22) rfl co_X5_comesBack ini_X5 ml_X5_171 im_X5_comesBack se_X5_comesBack ar_X5_comesBack ⟨Nat.le_of_ble_eq_true rfl, Nat.le_of_ble_eq_true rfl⟩ ⟨Nat.le_of_ble_eq_true rfl, Nat.le_of_ble_eq_true rfl⟩ rfl rfl (bw_pick1 5 [0, 1, 2, 3, 4] rfl rfl (by decide)) (Nat.le_of_ble_eq_true rfl) dX5_ifGiven_49 (fun r w1 hq => ?_)
        obtain ⟨rfl, rfl⟩ := hq
        refine bw_perm (ws1 := [(ah, .inr (5, [.ref ah_all, .ref ah_kept, .ref ah_history, .int vh_historyLong, .ref ah_slots, .ref ah_isSaved, .ref ah_words, .int q_19.2.1, .ref ah_left, .int q_19.2.2.1, .ref ah_seen, .ref ah_text, .int vh_textLong, .int vh_spot, .ref ah_signs, .ref ah_pauses, .int vh_read])), (ah_all, .inl (g.2.1, 120, .inl q_22)), (ah_kept, .inl (g.2.1, 120, .inl q_18)), (ah_words, .inl (g.2.1, 24, .inl q_19.2.2.2.2.1)), (ah_left, .inl (g.2.1, 24, .inl q_19.2.2.2.2.2))]) (bw_pick1 5 [2, 3, 4, 0, 1] rfl rfl (by decide)) ?_
        refine bw_st (st1 := []) rfl ?_
        refine bw_iload 0 dX5_ifGiven_52 rfl ?_
        cases Option.some.inj hf
        exact bw_ret rfl rfl (Nat.le_of_ble_eq_true rfl) (Nat.le_of_ble_eq_true rfl) dX5_ifGiven_54 ⟨rfl, rfl⟩
      · have hf := bw_pos c_17 hf
        refine bw_ldc ct_X5_136 dX5_ifGiven_24 ?_
        cases Option.some.inj hf
        exact bw_ret rfl rfl (Nat.le_of_ble_eq_true rfl) (Nat.le_of_ble_eq_true rfl) dX5_ifGiven_26 ⟨rfl, rfl⟩
    · have hf := bw_pos c_15 hf
      refine bw_ldc ct_X5_125 dX5_ifGiven_14 ?_
      cases Option.some.inj hf
      exact bw_ret rfl rfl (Nat.le_of_ble_eq_true rfl) (Nat.le_of_ble_eq_true rfl) dX5_ifGiven_16 ⟨rfl, rfl⟩
def f_X5_bestBow_L25 : Nat → (Int32) → (Int32) → (Nat → Int32) → (Nat → Int32) → (Nat → Int32) → (Int32) → (Int32) → (Int32) → Option (Int32 × (Int32) × (Int32) × (Nat → Int32) × (Nat → Int32) × (Nat → Int32))
  | 0, _, _, _, _, _, _, _, _ => none
  | fu + 1, vh_groups, vh_leftLong, vh_all, vh_words, vh_left, x1, x2, x3 => (if 6 ≤ x3 then (if bw_in 3 120 then (if bw_in ((48 + (vh_all (Int32.toNatClampNeg 3)))) 120 then some (x1, vh_groups, vh_leftLong, (upd vh_all (Int32.toNatClampNeg ((48 + (vh_all (Int32.toNatClampNeg 3))))) 0), vh_words, vh_left) else none) else none) else ((f_X5_adds vh_all x3 0).bind fun q_17 => ((f_X5_sentences vh_groups vh_leftLong q_17 vh_words vh_left 0).bind fun q_18 => (if bw_in 3 120 then (if bw_in 3 120 then (if q_18.1 ≤ x2 then (if q_18.1 ≤ x2 then (f_X5_bestBow_L25 fu q_18.2.1 q_18.2.2.1 ((upd q_17 (Int32.toNatClampNeg 3) (((q_17 (Int32.toNatClampNeg 3)) - 1)))) q_18.2.2.2.1 q_18.2.2.2.2 x1 x2 ((x3 + 1))) else (f_X5_bestBow_L25 fu q_18.2.1 q_18.2.2.1 ((upd q_17 (Int32.toNatClampNeg 3) (((q_17 (Int32.toNatClampNeg 3)) - 1)))) q_18.2.2.2.1 q_18.2.2.2.2 x1 q_18.1 ((x3 + 1)))) else (if q_18.1 ≤ x2 then (f_X5_bestBow_L25 fu q_18.2.1 q_18.2.2.1 ((upd q_17 (Int32.toNatClampNeg 3) (((q_17 (Int32.toNatClampNeg 3)) - 1)))) q_18.2.2.2.1 q_18.2.2.2.2 x3 x2 ((x3 + 1))) else (f_X5_bestBow_L25 fu q_18.2.1 q_18.2.2.1 ((upd q_17 (Int32.toNatClampNeg 3) (((q_17 (Int32.toNatClampNeg 3)) - 1)))) q_18.2.2.2.1 q_18.2.2.2.2 x3 q_18.1 ((x3 + 1))))) else none) else none))))
set_option maxHeartbeats 4000000 in
set_option maxRecDepth 100000 in
theorem s_X5_bestBow_L25 (l : Launch) (g : bwG) (ah ah_all ah_kept ah_history ah_slots ah_isSaved ah_words ah_left ah_seen ah_text ah_signs ah_pauses : Nat) (fu : Nat) : ∀ (vh_historyLong : Int32) (vh_groups : Int32) (vh_leftLong : Int32) (vh_textLong : Int32) (vh_spot : Int32) (vh_read : Int32) (vh_all : Nat → Int32) (vh_words : Nat → Int32) (vh_left : Nat → Int32) (x1 : Int32) (x2 : Int32) (x3 : Int32) (res : Int32 × (Int32) × (Int32) × (Nat → Int32) × (Nat → Int32) × (Nat → Int32)), f_X5_bestBow_L25 fu vh_groups vh_leftLong vh_all vh_words vh_left x1 x2 x3 = some res → bwR l g cX5_bestBow 5 RX5 "bestBow" (some .int) ({ frames := 5, cells := 0, slots := 0, locals := 110 } : Room) bwT (bwZ g (fun r w => r = some (.int res.1) ∧ w = [(ah, .inr (5, [.ref ah_all, .ref ah_kept, .ref ah_history, .int vh_historyLong, .ref ah_slots, .ref ah_isSaved, .ref ah_words, .int res.2.1, .ref ah_left, .int res.2.2.1, .ref ah_seen, .ref ah_text, .int vh_textLong, .int vh_spot, .ref ah_signs, .ref ah_pauses, .int vh_read])), (ah_all, .inl (g.2.1, 120, .inl res.2.2.2.1)), (ah_words, .inl (g.2.1, 24, .inl res.2.2.2.2.1)), (ah_left, .inl (g.2.1, 24, .inl res.2.2.2.2.2))]) 0 0) 25 [(0, .ref ah), (1, .int x1), (2, .int x2), (3, .int x3)] [] ([(ah, .inr (5, [.ref ah_all, .ref ah_kept, .ref ah_history, .int vh_historyLong, .ref ah_slots, .ref ah_isSaved, .ref ah_words, .int vh_groups, .ref ah_left, .int vh_leftLong, .ref ah_seen, .ref ah_text, .int vh_textLong, .int vh_spot, .ref ah_signs, .ref ah_pauses, .int vh_read])), (ah_all, .inl (g.2.1, 120, .inl vh_all)), (ah_words, .inl (g.2.1, 24, .inl vh_words)), (ah_left, .inl (g.2.1, 24, .inl vh_left))]) 0 0 := by
  induction fu with
  | zero => intro vh_historyLong vh_groups vh_leftLong vh_textLong vh_spot vh_read vh_all vh_words vh_left x1 x2 x3 res hf; exact absurd hf (by intro h; cases h)
  | succ fu ih =>
    intro vh_historyLong vh_groups vh_leftLong vh_textLong vh_spot vh_read vh_all vh_words vh_left x1 x2 x3 res hf
    rw [f_X5_bestBow_L25] at hf
    refine bw_iload_n 3 dX5_bestBow_25 rfl rfl ?_
    refine bw_bipush 6 dX5_bestBow_26 (by decide) ?_
    refine bw_icmp_ge 85 dX5_bestBow_28 (by decide) (fun c_14 => ?_) (fun c_14 => ?_)
    · have hf := bw_pos c_14 hf
      refine bw_aload_n 0 dX5_bestBow_85 rfl rfl ?_
      refine bw_gf bkX5 0 0 (by decide) fl_X5_7 rfl rfl dX5_bestBow_86 ?_
      refine bw_bipush 48 dX5_bestBow_89 (by decide) ?_
      refine bw_aload_n 0 dX5_bestBow_91 rfl rfl ?_
      refine bw_gf bkX5 0 0 (by decide) fl_X5_7 rfl rfl dX5_bestBow_92 ?_
      refine bw_iconst 3 dX5_bestBow_95 (by decide) ?_
      obtain ⟨h_15, hf⟩ := bw_chk hf
      refine bw_iald 1 rfl h_15 dX5_bestBow_96 ?_
      refine bw_iadd dX5_bestBow_97 ?_
      refine bw_iconst 0 dX5_bestBow_98 (by decide) ?_
      obtain ⟨h_16, hf⟩ := bw_chk hf
      refine bw_iast 1 ([(ah, .inr (5, [.ref ah_all, .ref ah_kept, .ref ah_history, .int vh_historyLong, .ref ah_slots, .ref ah_isSaved, .ref ah_words, .int vh_groups, .ref ah_left, .int vh_leftLong, .ref ah_seen, .ref ah_text, .int vh_textLong, .int vh_spot, .ref ah_signs, .ref ah_pauses, .int vh_read])), (ah_all, .inl (g.2.1, 120, .inl ((upd vh_all (Int32.toNatClampNeg ((48 + (vh_all (Int32.toNatClampNeg 3))))) 0)))), (ah_words, .inl (g.2.1, 24, .inl vh_words)), (ah_left, .inl (g.2.1, 24, .inl vh_left))]) rfl h_16 rfl dX5_bestBow_99 ?_
      refine bw_iload_n 1 dX5_bestBow_100 rfl rfl ?_
      cases Option.some.inj hf
      exact bw_ret rfl rfl (Nat.le_of_ble_eq_true rfl) (Nat.le_of_ble_eq_true rfl) dX5_bestBow_101 ⟨rfl, rfl⟩
    · have hf := bw_neg c_14 hf
      refine bw_aload_n 0 dX5_bestBow_31 rfl rfl ?_
      refine bw_iload_n 3 dX5_bestBow_32 rfl rfl ?_
      refine bw_iconst 0 dX5_bestBow_33 (by decide) ?_
      obtain ⟨q_17, hc_17, hf⟩ := bw_bind hf
      refine bw_callV [.int x3, .int 0] [] [(ah_words, .inl (g.2.1, 24, .inl vh_words)), (ah_left, .inl (g.2.1, 24, .inl vh_left))] 0 5 (s_X5_adds l g ah ah_all ah_kept ah_history ah_slots ah_isSaved ah_words ah_left ah_seen ah_text ah_signs ah_pauses vh_historyLong vh_groups vh_leftLong vh_textLong vh_spot vh_read vh_all x3 0 _ hc_17) rfl co_X5_adds ini_X5 ml_X5_132 im_X5_adds se_X5_adds ar_X5_adds ⟨Nat.le_of_ble_eq_true rfl, Nat.le_of_ble_eq_true rfl⟩ ⟨Nat.le_of_ble_eq_true rfl, Nat.le_of_ble_eq_true rfl⟩ rfl rfl (bw_pick1 4 [0, 1, 2, 3] rfl rfl (by decide)) (Nat.le_of_ble_eq_true rfl) dX5_bestBow_34 (fun r w1 hq => ?_)
      obtain ⟨rfl, rfl⟩ := hq
      refine bw_perm (ws1 := [(ah, .inr (5, [.ref ah_all, .ref ah_kept, .ref ah_history, .int vh_historyLong, .ref ah_slots, .ref ah_isSaved, .ref ah_words, .int vh_groups, .ref ah_left, .int vh_leftLong, .ref ah_seen, .ref ah_text, .int vh_textLong, .int vh_spot, .ref ah_signs, .ref ah_pauses, .int vh_read])), (ah_all, .inl (g.2.1, 120, .inl q_17)), (ah_words, .inl (g.2.1, 24, .inl vh_words)), (ah_left, .inl (g.2.1, 24, .inl vh_left))]) (bw_pick1 4 [2, 3, 0, 1] rfl rfl (by decide)) ?_
      refine bw_st (st1 := []) rfl ?_
      refine bw_aload_n 0 dX5_bestBow_37 rfl rfl ?_
      refine bw_iconst 0 dX5_bestBow_38 (by decide) ?_
      obtain ⟨q_18, hc_18, hf⟩ := bw_bind hf
      refine bw_callV [.int 0] [] [] 0 5 (s_X5_sentences l g ah ah_all ah_kept ah_history ah_slots ah_isSaved ah_words ah_left ah_seen ah_text ah_signs ah_pauses vh_historyLong vh_groups vh_leftLong vh_textLong vh_spot vh_read q_17 vh_words vh_left 0 _ hc_18) rfl co_X5_sentences ini_X5 ml_X5_102 im_X5_sentences se_X5_sentences ar_X5_sentences ⟨Nat.le_of_ble_eq_true rfl, Nat.le_of_ble_eq_true rfl⟩ ⟨Nat.le_of_ble_eq_true rfl, Nat.le_of_ble_eq_true rfl⟩ rfl rfl (bw_pick1 4 [0, 1, 2, 3] rfl rfl (by decide)) (Nat.le_of_ble_eq_true rfl) dX5_bestBow_39 (fun r w1 hq => ?_)
      obtain ⟨rfl, rfl⟩ := hq
      refine bw_perm (ws1 := [(ah, .inr (5, [.ref ah_all, .ref ah_kept, .ref ah_history, .int vh_historyLong, .ref ah_slots, .ref ah_isSaved, .ref ah_words, .int q_18.2.1, .ref ah_left, .int q_18.2.2.1, .ref ah_seen, .ref ah_text, .int vh_textLong, .int vh_spot, .ref ah_signs, .ref ah_pauses, .int vh_read])), (ah_all, .inl (g.2.1, 120, .inl q_17)), (ah_words, .inl (g.2.1, 24, .inl q_18.2.2.2.1)), (ah_left, .inl (g.2.1, 24, .inl q_18.2.2.2.2))]) (bw_pick1 4 [0, 1, 2, 3] rfl rfl (by decide)) ?_
      refine bw_st (st1 := [.int q_18.1]) rfl ?_
      refine bw_istore [(4, .int q_18.1), (0, .ref ah), (1, .int x1), (2, .int x2), (3, .int x3)] dX5_bestBow_42 (by decide) rfl ?_
      refine bw_aload_n 1 dX5_bestBow_44 rfl rfl ?_
      refine bw_gf bkX5 0 0 (by decide) fl_X5_7 rfl rfl dX5_bestBow_45 ?_
      refine bw_iconst 3 dX5_bestBow_48 (by decide) ?_
      refine bw_dup2_11 dX5_bestBow_49 rfl rfl ?_
      obtain ⟨h_19, hf⟩ := bw_chk hf
      refine bw_iald 1 rfl h_19 dX5_bestBow_50 ?_
      refine bw_iconst 1 dX5_bestBow_51 (by decide) ?_
      refine bw_isub dX5_bestBow_52 ?_
      obtain ⟨h_20, hf⟩ := bw_chk hf
      refine bw_iast 1 ([(ah, .inr (5, [.ref ah_all, .ref ah_kept, .ref ah_history, .int vh_historyLong, .ref ah_slots, .ref ah_isSaved, .ref ah_words, .int q_18.2.1, .ref ah_left, .int q_18.2.2.1, .ref ah_seen, .ref ah_text, .int vh_textLong, .int vh_spot, .ref ah_signs, .ref ah_pauses, .int vh_read])), (ah_all, .inl (g.2.1, 120, .inl ((upd q_17 (Int32.toNatClampNeg 3) (((q_17 (Int32.toNatClampNeg 3)) - 1)))))), (ah_words, .inl (g.2.1, 24, .inl q_18.2.2.2.1)), (ah_left, .inl (g.2.1, 24, .inl q_18.2.2.2.2))]) rfl h_20 rfl dX5_bestBow_53 ?_
      refine bw_iload 0 dX5_bestBow_54 rfl ?_
      refine bw_iload_n 3 dX5_bestBow_56 rfl rfl ?_
      refine bw_icmp_le 64 dX5_bestBow_57 (by decide) (fun c_21 => ?_) (fun c_21 => ?_)
      · have hf := bw_pos c_21 hf
        refine bw_iload_n 2 dX5_bestBow_64 rfl rfl ?_
        refine bw_istore_n [(1, .int x1), (4, .int q_18.1), (0, .ref ah), (2, .int x2), (3, .int x3)] dX5_bestBow_65 rfl (by decide) rfl ?_
        refine bw_iload 1 dX5_bestBow_66 rfl ?_
        refine bw_iload_n 3 dX5_bestBow_68 rfl rfl ?_
        refine bw_icmp_le 77 dX5_bestBow_69 (by decide) (fun c_22 => ?_) (fun c_22 => ?_)
        · have hf := bw_pos c_22 hf
          refine bw_iload_n 3 dX5_bestBow_77 rfl rfl ?_
          refine bw_istore_n [(2, .int x2), (1, .int x1), (4, .int q_18.1), (0, .ref ah), (3, .int x3)] dX5_bestBow_78 rfl (by decide) rfl ?_
          refine bw_iinc 4 (x3 + 1) [(3, .int ((x3 + 1))), (2, .int x2), (1, .int x1), (4, .int q_18.1), (0, .ref ah)] dX5_bestBow_79 rfl rfl (by decide) rfl ?_
          refine bw_goto 25 dX5_bestBow_82 (by decide) ?_
          refine bw_lv [4, 2, 1, 0] rfl ?_
          exact ih vh_historyLong q_18.2.1 q_18.2.2.1 vh_textLong vh_spot vh_read ((upd q_17 (Int32.toNatClampNeg 3) (((q_17 (Int32.toNatClampNeg 3)) - 1)))) q_18.2.2.2.1 q_18.2.2.2.2 x1 x2 ((x3 + 1)) _ hf
        · have hf := bw_neg c_22 hf
          refine bw_iload 1 dX5_bestBow_72 rfl ?_
          refine bw_goto 78 dX5_bestBow_74 (by decide) ?_
          refine bw_istore_n [(2, .int q_18.1), (1, .int x1), (4, .int q_18.1), (0, .ref ah), (3, .int x3)] dX5_bestBow_78 rfl (by decide) rfl ?_
          refine bw_iinc 4 (x3 + 1) [(3, .int ((x3 + 1))), (2, .int q_18.1), (1, .int x1), (4, .int q_18.1), (0, .ref ah)] dX5_bestBow_79 rfl rfl (by decide) rfl ?_
          refine bw_goto 25 dX5_bestBow_82 (by decide) ?_
          refine bw_lv [4, 2, 1, 0] rfl ?_
          exact ih vh_historyLong q_18.2.1 q_18.2.2.1 vh_textLong vh_spot vh_read ((upd q_17 (Int32.toNatClampNeg 3) (((q_17 (Int32.toNatClampNeg 3)) - 1)))) q_18.2.2.2.1 q_18.2.2.2.2 x1 q_18.1 ((x3 + 1)) _ hf
      · have hf := bw_neg c_21 hf
        refine bw_iload_n 4 dX5_bestBow_60 rfl rfl ?_
        refine bw_goto 65 dX5_bestBow_61 (by decide) ?_
        refine bw_istore_n [(1, .int x3), (4, .int q_18.1), (0, .ref ah), (2, .int x2), (3, .int x3)] dX5_bestBow_65 rfl (by decide) rfl ?_
        refine bw_iload 1 dX5_bestBow_66 rfl ?_
        refine bw_iload_n 3 dX5_bestBow_68 rfl rfl ?_
        refine bw_icmp_le 77 dX5_bestBow_69 (by decide) (fun c_23 => ?_) (fun c_23 => ?_)
        · have hf := bw_pos c_23 hf
          refine bw_iload_n 3 dX5_bestBow_77 rfl rfl ?_
          refine bw_istore_n [(2, .int x2), (1, .int x3), (4, .int q_18.1), (0, .ref ah), (3, .int x3)] dX5_bestBow_78 rfl (by decide) rfl ?_
          refine bw_iinc 4 (x3 + 1) [(3, .int ((x3 + 1))), (2, .int x2), (1, .int x3), (4, .int q_18.1), (0, .ref ah)] dX5_bestBow_79 rfl rfl (by decide) rfl ?_
          refine bw_goto 25 dX5_bestBow_82 (by decide) ?_
          refine bw_lv [4, 2, 1, 0] rfl ?_
          exact ih vh_historyLong q_18.2.1 q_18.2.2.1 vh_textLong vh_spot vh_read ((upd q_17 (Int32.toNatClampNeg 3) (((q_17 (Int32.toNatClampNeg 3)) - 1)))) q_18.2.2.2.1 q_18.2.2.2.2 x3 x2 ((x3 + 1)) _ hf
        · have hf := bw_neg c_23 hf
          refine bw_iload 1 dX5_bestBow_72 rfl ?_
          refine bw_goto 78 dX5_bestBow_74 (by decide) ?_
          refine bw_istore_n [(2, .int q_18.1), (1, .int x3), (4, .int q_18.1), (0, .ref ah), (3, .int x3)] dX5_bestBow_78 rfl (by decide) rfl ?_
          refine bw_iinc 4 (x3 + 1) [(3, .int ((x3 + 1))), (2, .int q_18.1), (1, .int x3), (4, .int q_18.1), (0, .ref ah)] dX5_bestBow_79 rfl rfl (by decide) rfl ?_
          refine bw_goto 25 dX5_bestBow_82 (by decide) ?_
          refine bw_lv [4, 2, 1, 0] rfl ?_
          exact ih vh_historyLong q_18.2.1 q_18.2.2.1 vh_textLong vh_spot vh_read ((upd q_17 (Int32.toNatClampNeg 3) (((q_17 (Int32.toNatClampNeg 3)) - 1)))) q_18.2.2.2.1 q_18.2.2.2.2 x3 q_18.1 ((x3 + 1)) _ hf
theorem ar_X5_bestBow : yX5_bestBow.cls ≠ "java/lang/invoke/MethodHandle" ∧ yX5_bestBow.cls ≠ "java/lang/invoke/VarHandle" ∧ (parseMethodDescriptor yX5_bestBow.desc).map (fun d => d.parameters.length) = some 0 := ⟨by decide, by decide, by decide +kernel⟩
def f_X5_bestBow (vh_groups : Int32) (vh_leftLong : Int32) (vh_all : Nat → Int32) (vh_words : Nat → Int32) (vh_left : Nat → Int32)  : Option (Int32 × (Int32) × (Int32) × (Nat → Int32) × (Nat → Int32) × (Nat → Int32)) := (if bw_in 3 120 then (if (vh_all (Int32.toNatClampNeg 3)) = 24 then some ((-1000006), vh_groups, vh_leftLong, vh_all, vh_words, vh_left) else ((f_X5_sentences vh_groups vh_leftLong vh_all vh_words vh_left 0).bind fun q_26 => (f_X5_bestBow_L25 bw_F q_26.2.1 q_26.2.2.1 vh_all q_26.2.2.2.1 q_26.2.2.2.2 ((-1000006)) q_26.1 0))) else none)
set_option maxHeartbeats 4000000 in
set_option maxRecDepth 100000 in
theorem s_X5_bestBow (l : Launch) (g : bwG) (ah ah_all ah_kept ah_history ah_slots ah_isSaved ah_words ah_left ah_seen ah_text ah_signs ah_pauses : Nat) (vh_historyLong : Int32) (vh_groups : Int32) (vh_leftLong : Int32) (vh_textLong : Int32) (vh_spot : Int32) (vh_read : Int32) (vh_all : Nat → Int32) (vh_words : Nat → Int32) (vh_left : Nat → Int32)  (res : Int32 × (Int32) × (Int32) × (Nat → Int32) × (Nat → Int32) × (Nat → Int32)) (hf : f_X5_bestBow vh_groups vh_leftLong vh_all vh_words vh_left  = some res) : bwS l g yX5_bestBow cX5_bestBow 5 (some .int) ({ frames := 5, cells := 0, slots := 0, locals := 110 } : Room) [.ref ah] ([(ah, .inr (5, [.ref ah_all, .ref ah_kept, .ref ah_history, .int vh_historyLong, .ref ah_slots, .ref ah_isSaved, .ref ah_words, .int vh_groups, .ref ah_left, .int vh_leftLong, .ref ah_seen, .ref ah_text, .int vh_textLong, .int vh_spot, .ref ah_signs, .ref ah_pauses, .int vh_read])), (ah_all, .inl (g.2.1, 120, .inl vh_all)), (ah_words, .inl (g.2.1, 24, .inl vh_words)), (ah_left, .inl (g.2.1, 24, .inl vh_left))]) (fun r w => r = some (.int res.1) ∧ w = [(ah, .inr (5, [.ref ah_all, .ref ah_kept, .ref ah_history, .int vh_historyLong, .ref ah_slots, .ref ah_isSaved, .ref ah_words, .int res.2.1, .ref ah_left, .int res.2.2.1, .ref ah_seen, .ref ah_text, .int vh_textLong, .int vh_spot, .ref ah_signs, .ref ah_pauses, .int vh_read])), (ah_all, .inl (g.2.1, 120, .inl res.2.2.2.1)), (ah_words, .inl (g.2.1, 24, .inl res.2.2.2.2.1)), (ah_left, .inl (g.2.1, 24, .inl res.2.2.2.2.2))]) := by
  refine bwS_of (by decide) (Nat.le_of_ble_eq_true rfl) ?_
  unfold f_X5_bestBow at hf
  show bwR l g cX5_bestBow 5 RX5 "bestBow" (some .int) ({ frames := 5, cells := 0, slots := 0, locals := 110 } : Room) bwT (bwZ g (fun r w => r = some (.int res.1) ∧ w = [(ah, .inr (5, [.ref ah_all, .ref ah_kept, .ref ah_history, .int vh_historyLong, .ref ah_slots, .ref ah_isSaved, .ref ah_words, .int res.2.1, .ref ah_left, .int res.2.2.1, .ref ah_seen, .ref ah_text, .int vh_textLong, .int vh_spot, .ref ah_signs, .ref ah_pauses, .int vh_read])), (ah_all, .inl (g.2.1, 120, .inl res.2.2.2.1)), (ah_words, .inl (g.2.1, 24, .inl res.2.2.2.2.1)), (ah_left, .inl (g.2.1, 24, .inl res.2.2.2.2.2))]) 0 0) 0 [(0, .ref ah)] [] ([(ah, .inr (5, [.ref ah_all, .ref ah_kept, .ref ah_history, .int vh_historyLong, .ref ah_slots, .ref ah_isSaved, .ref ah_words, .int vh_groups, .ref ah_left, .int vh_leftLong, .ref ah_seen, .ref ah_text, .int vh_textLong, .int vh_spot, .ref ah_signs, .ref ah_pauses, .int vh_read])), (ah_all, .inl (g.2.1, 120, .inl vh_all)), (ah_words, .inl (g.2.1, 24, .inl vh_words)), (ah_left, .inl (g.2.1, 24, .inl vh_left))]) 0 0
  refine bw_aload_n 0 dX5_bestBow_0 rfl rfl ?_
  refine bw_gf bkX5 0 0 (by decide) fl_X5_7 rfl rfl dX5_bestBow_1 ?_
  refine bw_iconst 3 dX5_bestBow_4 (by decide) ?_
  obtain ⟨h_24, hf⟩ := bw_chk hf
  refine bw_iald 1 rfl h_24 dX5_bestBow_5 ?_
  refine bw_bipush 24 dX5_bestBow_6 (by decide) ?_
  refine bw_icmp_ne 14 dX5_bestBow_8 (by decide) (fun c_25 => ?_) (fun c_25 => ?_)
  · have hf := bw_neg c_25 hf
    refine bw_ldc ct_X5_70 dX5_bestBow_14 ?_
    refine bw_istore_n [(1, .int ((-1000006))), (0, .ref ah)] dX5_bestBow_16 rfl (by decide) rfl ?_
    refine bw_aload_n 1 dX5_bestBow_17 rfl rfl ?_
    refine bw_iconst 0 dX5_bestBow_18 (by decide) ?_
    obtain ⟨q_26, hc_26, hf⟩ := bw_bind hf
    refine bw_callV [.int 0] [] [] 0 5 (s_X5_sentences l g ah ah_all ah_kept ah_history ah_slots ah_isSaved ah_words ah_left ah_seen ah_text ah_signs ah_pauses vh_historyLong vh_groups vh_leftLong vh_textLong vh_spot vh_read vh_all vh_words vh_left 0 _ hc_26) rfl co_X5_sentences ini_X5 ml_X5_102 im_X5_sentences se_X5_sentences ar_X5_sentences ⟨Nat.le_of_ble_eq_true rfl, Nat.le_of_ble_eq_true rfl⟩ ⟨Nat.le_of_ble_eq_true rfl, Nat.le_of_ble_eq_true rfl⟩ rfl rfl (bw_pick1 4 [0, 1, 2, 3] rfl rfl (by decide)) (Nat.le_of_ble_eq_true rfl) dX5_bestBow_19 (fun r w1 hq => ?_)
    obtain ⟨rfl, rfl⟩ := hq
    refine bw_perm (ws1 := [(ah, .inr (5, [.ref ah_all, .ref ah_kept, .ref ah_history, .int vh_historyLong, .ref ah_slots, .ref ah_isSaved, .ref ah_words, .int q_26.2.1, .ref ah_left, .int q_26.2.2.1, .ref ah_seen, .ref ah_text, .int vh_textLong, .int vh_spot, .ref ah_signs, .ref ah_pauses, .int vh_read])), (ah_all, .inl (g.2.1, 120, .inl vh_all)), (ah_words, .inl (g.2.1, 24, .inl q_26.2.2.2.1)), (ah_left, .inl (g.2.1, 24, .inl q_26.2.2.2.2))]) (bw_pick1 4 [0, 1, 2, 3] rfl rfl (by decide)) ?_
    refine bw_st (st1 := [.int q_26.1]) rfl ?_
    refine bw_istore_n [(2, .int q_26.1), (1, .int ((-1000006))), (0, .ref ah)] dX5_bestBow_22 rfl (by decide) rfl ?_
    refine bw_iconst 0 dX5_bestBow_23 (by decide) ?_
    refine bw_istore_n [(3, .int 0), (2, .int q_26.1), (1, .int ((-1000006))), (0, .ref ah)] dX5_bestBow_24 rfl (by decide) rfl ?_
    refine bw_lv [3, 2, 1, 0] rfl ?_
    exact s_X5_bestBow_L25 l g ah ah_all ah_kept ah_history ah_slots ah_isSaved ah_words ah_left ah_seen ah_text ah_signs ah_pauses bw_F vh_historyLong q_26.2.1 q_26.2.2.1 vh_textLong vh_spot vh_read vh_all q_26.2.2.2.1 q_26.2.2.2.2 ((-1000006)) q_26.1 0 _ hf
  · have hf := bw_pos c_25 hf
    refine bw_ldc ct_X5_70 dX5_bestBow_11 ?_
    cases Option.some.inj hf
    exact bw_ret rfl rfl (Nat.le_of_ble_eq_true rfl) (Nat.le_of_ble_eq_true rfl) dX5_bestBow_13 ⟨rfl, rfl⟩
def f_X5_darling_L4 : Nat → (Nat → Int32) → (Int32) → (Int32) → Option (Int32)
  | 0, _, _, _ => none
  | fu + 1, vh_all, x1, x2 => (if 6 ≤ x2 then some x1 else ((f_X5_favours vh_all x2 ((-1))).bind fun q_6 => ((f_X5_favours vh_all x1 ((-1))).bind fun q_7 => (if q_6 ≤ q_7 then (f_X5_darling_L4 fu vh_all x1 ((x2 + 1))) else (f_X5_darling_L4 fu vh_all x2 ((x2 + 1)))))))
set_option maxHeartbeats 4000000 in
set_option maxRecDepth 100000 in
theorem s_X5_darling_L4 (l : Launch) (g : bwG) (ah ah_all ah_kept ah_history ah_slots ah_isSaved ah_words ah_left ah_seen ah_text ah_signs ah_pauses : Nat) (fu : Nat) : ∀ (vh_historyLong : Int32) (vh_groups : Int32) (vh_leftLong : Int32) (vh_textLong : Int32) (vh_spot : Int32) (vh_read : Int32) (vh_all : Nat → Int32) (x1 : Int32) (x2 : Int32) (res : Int32), f_X5_darling_L4 fu vh_all x1 x2 = some res → bwR l g cX5_darling 3 RX5 "darling" (some .int) ({ frames := 1, cells := 0, slots := 0, locals := 24 } : Room) bwT (bwZ g (fun r w => r = some (.int res) ∧ w = [(ah, .inr (5, [.ref ah_all, .ref ah_kept, .ref ah_history, .int vh_historyLong, .ref ah_slots, .ref ah_isSaved, .ref ah_words, .int vh_groups, .ref ah_left, .int vh_leftLong, .ref ah_seen, .ref ah_text, .int vh_textLong, .int vh_spot, .ref ah_signs, .ref ah_pauses, .int vh_read])), (ah_all, .inl (g.2.1, 120, .inl vh_all))]) 0 0) 4 [(0, .ref ah), (1, .int x1), (2, .int x2)] [] ([(ah, .inr (5, [.ref ah_all, .ref ah_kept, .ref ah_history, .int vh_historyLong, .ref ah_slots, .ref ah_isSaved, .ref ah_words, .int vh_groups, .ref ah_left, .int vh_leftLong, .ref ah_seen, .ref ah_text, .int vh_textLong, .int vh_spot, .ref ah_signs, .ref ah_pauses, .int vh_read])), (ah_all, .inl (g.2.1, 120, .inl vh_all))]) 0 0 := by
  induction fu with
  | zero => intro vh_historyLong vh_groups vh_leftLong vh_textLong vh_spot vh_read vh_all x1 x2 res hf; exact absurd hf (by intro h; cases h)
  | succ fu ih =>
    intro vh_historyLong vh_groups vh_leftLong vh_textLong vh_spot vh_read vh_all x1 x2 res hf
    rw [f_X5_darling_L4] at hf
    refine bw_iload_n 2 dX5_darling_4 rfl rfl ?_
    refine bw_bipush 6 dX5_darling_5 (by decide) ?_
    refine bw_icmp_ge 37 dX5_darling_7 (by decide) (fun c_5 => ?_) (fun c_5 => ?_)
    · have hf := bw_pos c_5 hf
      refine bw_iload_n 1 dX5_darling_37 rfl rfl ?_
      cases Option.some.inj hf
      exact bw_ret rfl rfl (Nat.le_of_ble_eq_true rfl) (Nat.le_of_ble_eq_true rfl) dX5_darling_38 ⟨rfl, rfl⟩
    · have hf := bw_neg c_5 hf
      refine bw_aload_n 0 dX5_darling_10 rfl rfl ?_
      refine bw_iload_n 2 dX5_darling_11 rfl rfl ?_
      refine bw_iconst (-1) dX5_darling_12 (by decide) ?_
      obtain ⟨q_6, hc_6, hf⟩ := bw_bind hf
      refine bw_callV [.int x2, .int ((-1))] [] [] 0 5 (s_X5_favours l g ah ah_all ah_kept ah_history ah_slots ah_isSaved ah_words ah_left ah_seen ah_text ah_signs ah_pauses vh_historyLong vh_groups vh_leftLong vh_textLong vh_spot vh_read vh_all x2 ((-1)) _ hc_6) rfl co_X5_favours ini_X5 ml_X5_162 im_X5_favours se_X5_favours ar_X5_favours ⟨Nat.le_of_ble_eq_true rfl, Nat.le_of_ble_eq_true rfl⟩ ⟨Nat.le_of_ble_eq_true rfl, Nat.le_of_ble_eq_true rfl⟩ rfl rfl (bw_pick1 2 [0, 1] rfl rfl (by decide)) (Nat.le_of_ble_eq_true rfl) dX5_darling_13 (fun r w1 hq => ?_)
      obtain ⟨rfl, rfl⟩ := hq
      refine bw_perm (ws1 := [(ah, .inr (5, [.ref ah_all, .ref ah_kept, .ref ah_history, .int vh_historyLong, .ref ah_slots, .ref ah_isSaved, .ref ah_words, .int vh_groups, .ref ah_left, .int vh_leftLong, .ref ah_seen, .ref ah_text, .int vh_textLong, .int vh_spot, .ref ah_signs, .ref ah_pauses, .int vh_read])), (ah_all, .inl (g.2.1, 120, .inl vh_all))]) (bw_pick1 2 [0, 1] rfl rfl (by decide)) ?_
      refine bw_st (st1 := [.int q_6]) rfl ?_
      refine bw_aload_n 0 dX5_darling_16 rfl rfl ?_
      refine bw_iload_n 1 dX5_darling_17 rfl rfl ?_
      refine bw_iconst (-1) dX5_darling_18 (by decide) ?_
      obtain ⟨q_7, hc_7, hf⟩ := bw_bind hf
      refine bw_callV [.int x1, .int ((-1))] [.int q_6] [] 0 5 (s_X5_favours l g ah ah_all ah_kept ah_history ah_slots ah_isSaved ah_words ah_left ah_seen ah_text ah_signs ah_pauses vh_historyLong vh_groups vh_leftLong vh_textLong vh_spot vh_read vh_all x1 ((-1)) _ hc_7) rfl co_X5_favours ini_X5 ml_X5_162 im_X5_favours se_X5_favours ar_X5_favours ⟨Nat.le_of_ble_eq_true rfl, Nat.le_of_ble_eq_true rfl⟩ ⟨Nat.le_of_ble_eq_true rfl, Nat.le_of_ble_eq_true rfl⟩ rfl rfl (bw_pick1 2 [0, 1] rfl rfl (by decide)) (Nat.le_of_ble_eq_true rfl) dX5_darling_19 (fun r w1 hq => ?_)
      obtain ⟨rfl, rfl⟩ := hq
      refine bw_perm (ws1 := [(ah, .inr (5, [.ref ah_all, .ref ah_kept, .ref ah_history, .int vh_historyLong, .ref ah_slots, .ref ah_isSaved, .ref ah_words, .int vh_groups, .ref ah_left, .int vh_leftLong, .ref ah_seen, .ref ah_text, .int vh_textLong, .int vh_spot, .ref ah_signs, .ref ah_pauses, .int vh_read])), (ah_all, .inl (g.2.1, 120, .inl vh_all))]) (bw_pick1 2 [0, 1] rfl rfl (by decide)) ?_
      refine bw_st (st1 := [.int q_7, .int q_6]) rfl ?_
      refine bw_icmp_le 29 dX5_darling_22 (by decide) (fun c_8 => ?_) (fun c_8 => ?_)
      · have hf := bw_pos c_8 hf
        refine bw_iload_n 1 dX5_darling_29 rfl rfl ?_
        refine bw_istore_n [(1, .int x1), (0, .ref ah), (2, .int x2)] dX5_darling_30 rfl (by decide) rfl ?_
        refine bw_iinc 2 (x2 + 1) [(2, .int ((x2 + 1))), (1, .int x1), (0, .ref ah)] dX5_darling_31 rfl rfl (by decide) rfl ?_
        refine bw_goto 4 dX5_darling_34 (by decide) ?_
        refine bw_lv [2, 1, 0] rfl ?_
        exact ih vh_historyLong vh_groups vh_leftLong vh_textLong vh_spot vh_read vh_all x1 ((x2 + 1)) _ hf
      · have hf := bw_neg c_8 hf
        refine bw_iload_n 2 dX5_darling_25 rfl rfl ?_
        refine bw_goto 30 dX5_darling_26 (by decide) ?_
        refine bw_istore_n [(1, .int x2), (0, .ref ah), (2, .int x2)] dX5_darling_30 rfl (by decide) rfl ?_
        refine bw_iinc 2 (x2 + 1) [(2, .int ((x2 + 1))), (1, .int x2), (0, .ref ah)] dX5_darling_31 rfl rfl (by decide) rfl ?_
        refine bw_goto 4 dX5_darling_34 (by decide) ?_
        refine bw_lv [2, 1, 0] rfl ?_
        exact ih vh_historyLong vh_groups vh_leftLong vh_textLong vh_spot vh_read vh_all x2 ((x2 + 1)) _ hf
theorem ar_X5_darling : yX5_darling.cls ≠ "java/lang/invoke/MethodHandle" ∧ yX5_darling.cls ≠ "java/lang/invoke/VarHandle" ∧ (parseMethodDescriptor yX5_darling.desc).map (fun d => d.parameters.length) = some 0 := ⟨by decide, by decide, by decide +kernel⟩
def f_X5_darling (vh_all : Nat → Int32)  : Option (Int32) := (f_X5_darling_L4 bw_F vh_all 0 1)
set_option maxHeartbeats 4000000 in
set_option maxRecDepth 100000 in
theorem s_X5_darling (l : Launch) (g : bwG) (ah ah_all ah_kept ah_history ah_slots ah_isSaved ah_words ah_left ah_seen ah_text ah_signs ah_pauses : Nat) (vh_historyLong : Int32) (vh_groups : Int32) (vh_leftLong : Int32) (vh_textLong : Int32) (vh_spot : Int32) (vh_read : Int32) (vh_all : Nat → Int32)  (res : Int32) (hf : f_X5_darling vh_all  = some res) : bwS l g yX5_darling cX5_darling 3 (some .int) ({ frames := 1, cells := 0, slots := 0, locals := 24 } : Room) [.ref ah] ([(ah, .inr (5, [.ref ah_all, .ref ah_kept, .ref ah_history, .int vh_historyLong, .ref ah_slots, .ref ah_isSaved, .ref ah_words, .int vh_groups, .ref ah_left, .int vh_leftLong, .ref ah_seen, .ref ah_text, .int vh_textLong, .int vh_spot, .ref ah_signs, .ref ah_pauses, .int vh_read])), (ah_all, .inl (g.2.1, 120, .inl vh_all))]) (fun r w => r = some (.int res) ∧ w = [(ah, .inr (5, [.ref ah_all, .ref ah_kept, .ref ah_history, .int vh_historyLong, .ref ah_slots, .ref ah_isSaved, .ref ah_words, .int vh_groups, .ref ah_left, .int vh_leftLong, .ref ah_seen, .ref ah_text, .int vh_textLong, .int vh_spot, .ref ah_signs, .ref ah_pauses, .int vh_read])), (ah_all, .inl (g.2.1, 120, .inl vh_all))]) := by
  refine bwS_of (by decide) (Nat.le_of_ble_eq_true rfl) ?_
  unfold f_X5_darling at hf
  show bwR l g cX5_darling 3 RX5 "darling" (some .int) ({ frames := 1, cells := 0, slots := 0, locals := 24 } : Room) bwT (bwZ g (fun r w => r = some (.int res) ∧ w = [(ah, .inr (5, [.ref ah_all, .ref ah_kept, .ref ah_history, .int vh_historyLong, .ref ah_slots, .ref ah_isSaved, .ref ah_words, .int vh_groups, .ref ah_left, .int vh_leftLong, .ref ah_seen, .ref ah_text, .int vh_textLong, .int vh_spot, .ref ah_signs, .ref ah_pauses, .int vh_read])), (ah_all, .inl (g.2.1, 120, .inl vh_all))]) 0 0) 0 [(0, .ref ah)] [] ([(ah, .inr (5, [.ref ah_all, .ref ah_kept, .ref ah_history, .int vh_historyLong, .ref ah_slots, .ref ah_isSaved, .ref ah_words, .int vh_groups, .ref ah_left, .int vh_leftLong, .ref ah_seen, .ref ah_text, .int vh_textLong, .int vh_spot, .ref ah_signs, .ref ah_pauses, .int vh_read])), (ah_all, .inl (g.2.1, 120, .inl vh_all))]) 0 0
  refine bw_iconst 0 dX5_darling_0 (by decide) ?_
  refine bw_istore_n [(1, .int 0), (0, .ref ah)] dX5_darling_1 rfl (by decide) rfl ?_
  refine bw_iconst 1 dX5_darling_2 (by decide) ?_
  refine bw_istore_n [(2, .int 1), (1, .int 0), (0, .ref ah)] dX5_darling_3 rfl (by decide) rfl ?_
  refine bw_lv [2, 1, 0] rfl ?_
  exact s_X5_darling_L4 l g ah ah_all ah_kept ah_history ah_slots ah_isSaved ah_words ah_left ah_seen ah_text ah_signs ah_pauses bw_F vh_historyLong vh_groups vh_leftLong vh_textLong vh_spot vh_read vh_all 0 1 _ hf
def f_X5_charactersOf_L5 : Nat → (Int64) → (Int64) → (Int32) → Option (Int32)
  | 0, _, _, _ => none
  | fu + 1, x0, x2, x4 => (if 8 ≤ x4 then (if (lg_cmp x2 0) = 0 then some x4 else some 0) else ((f_X5_in ((x2 &&& 255)) 33 126).bind fun q_8 => (if q_8 = 0 then (if (lg_cmp x2 0) = 0 then some x4 else some 0) else (f_X5_charactersOf_L5 fu  x0 ((bw_ushr x2 8)) ((x4 + 1))))))
set_option maxHeartbeats 4000000 in
set_option maxRecDepth 100000 in
theorem s_X5_charactersOf_L5 (l : Launch) (g : bwG)  (fu : Nat) : ∀ (x0 : Int64) (x2 : Int64) (x4 : Int32) (res : Int32), f_X5_charactersOf_L5 fu  x0 x2 x4 = some res → bwR l g cX5_charactersOf 5 RX5 "charactersOf" (some .int) ({ frames := 1, cells := 0, slots := 0, locals := 25 } : Room) bwT (bwZ g (fun r w => r = some (.int res) ∧ w = []) 0 0) 5 [(0, .long x0), (2, .long x2), (4, .int x4)] [] ([]) 0 0 := by
  induction fu with
  | zero => intro x0 x2 x4 res hf; exact absurd hf (by intro h; cases h)
  | succ fu ih =>
    intro x0 x2 x4 res hf
    rw [f_X5_charactersOf_L5] at hf
    refine bw_iload 2 dX5_charactersOf_5 rfl ?_
    refine bw_bipush 8 dX5_charactersOf_7 (by decide) ?_
    refine bw_icmp_ge 40 dX5_charactersOf_9 (by decide) (fun c_6 => ?_) (fun c_6 => ?_)
    · have hf := bw_pos c_6 hf
      refine bw_lload_n 1 dX5_charactersOf_40 rfl rfl ?_
      refine bw_lconst 0 dX5_charactersOf_41 (by decide) ?_
      refine bw_lcmp dX5_charactersOf_42 ?_
      refine bw_if_ne 51 dX5_charactersOf_43 (by decide) (fun c_7 => ?_) (fun c_7 => ?_)
      · have hf := bw_neg c_7 hf
        refine bw_iconst 0 dX5_charactersOf_51 (by decide) ?_
        cases Option.some.inj hf
        exact bw_ret rfl rfl (Nat.le_of_ble_eq_true rfl) (Nat.le_of_ble_eq_true rfl) dX5_charactersOf_52 ⟨rfl, rfl⟩
      · have hf := bw_pos c_7 hf
        refine bw_iload 2 dX5_charactersOf_46 rfl ?_
        refine bw_goto 52 dX5_charactersOf_48 (by decide) ?_
        cases Option.some.inj hf
        exact bw_ret rfl rfl (Nat.le_of_ble_eq_true rfl) (Nat.le_of_ble_eq_true rfl) dX5_charactersOf_52 ⟨rfl, rfl⟩
    · have hf := bw_neg c_6 hf
      refine bw_lload_n 1 dX5_charactersOf_12 rfl rfl ?_
      refine bw_ldc2 ct_X5_174 dX5_charactersOf_13 ?_
      refine bw_land dX5_charactersOf_16 ?_
      refine bw_ldc2 ct_X5_176 dX5_charactersOf_17 ?_
      refine bw_ldc2 ct_X5_178 dX5_charactersOf_20 ?_
      obtain ⟨q_8, hc_8, hf⟩ := bw_bind hf
      refine bw_callS [.long ((x2 &&& 255)), .long 33, .long 126] [] [] (s_X5_in l g   ((x2 &&& 255)) 33 126 _ hc_8) rfl co_X5_in ini_X5 ml_X5_49 st_X5_in ar_X5_in ⟨Nat.le_of_ble_eq_true rfl, Nat.le_of_ble_eq_true rfl⟩ ⟨Nat.le_of_ble_eq_true rfl, Nat.le_of_ble_eq_true rfl⟩ (bw_pick1 0 [] rfl rfl (by decide)) (Nat.le_of_ble_eq_true rfl) dX5_charactersOf_23 (fun r w1 hq => ?_)
      obtain ⟨rfl, rfl⟩ := hq
      refine bw_perm (ws1 := []) (bw_pick1 0 [] rfl rfl (by decide)) ?_
      refine bw_st (st1 := [.int q_8]) rfl ?_
      refine bw_if_eq 40 dX5_charactersOf_26 (by decide) (fun c_9 => ?_) (fun c_9 => ?_)
      · have hf := bw_pos c_9 hf
        refine bw_lload_n 1 dX5_charactersOf_40 rfl rfl ?_
        refine bw_lconst 0 dX5_charactersOf_41 (by decide) ?_
        refine bw_lcmp dX5_charactersOf_42 ?_
        refine bw_if_ne 51 dX5_charactersOf_43 (by decide) (fun c_10 => ?_) (fun c_10 => ?_)
        · have hf := bw_neg c_10 hf
          refine bw_iconst 0 dX5_charactersOf_51 (by decide) ?_
          cases Option.some.inj hf
          exact bw_ret rfl rfl (Nat.le_of_ble_eq_true rfl) (Nat.le_of_ble_eq_true rfl) dX5_charactersOf_52 ⟨rfl, rfl⟩
        · have hf := bw_pos c_10 hf
          refine bw_iload 2 dX5_charactersOf_46 rfl ?_
          refine bw_goto 52 dX5_charactersOf_48 (by decide) ?_
          cases Option.some.inj hf
          exact bw_ret rfl rfl (Nat.le_of_ble_eq_true rfl) (Nat.le_of_ble_eq_true rfl) dX5_charactersOf_52 ⟨rfl, rfl⟩
      · have hf := bw_neg c_9 hf
        refine bw_lload_n 1 dX5_charactersOf_29 rfl rfl ?_
        refine bw_bipush 8 dX5_charactersOf_30 (by decide) ?_
        refine bw_lushr dX5_charactersOf_32 ?_
        refine bw_lstore_n [(2, .long ((bw_ushr x2 8))), (0, .long x0), (4, .int x4)] dX5_charactersOf_33 rfl (by decide) rfl ?_
        refine bw_iinc 2 (x4 + 1) [(4, .int ((x4 + 1))), (2, .long ((bw_ushr x2 8))), (0, .long x0)] dX5_charactersOf_34 rfl rfl (by decide) rfl ?_
        refine bw_goto 5 dX5_charactersOf_37 (by decide) ?_
        refine bw_lv [2, 1, 0] rfl ?_
        exact ih  x0 ((bw_ushr x2 8)) ((x4 + 1)) _ hf
theorem ar_X5_charactersOf : yX5_charactersOf.cls ≠ "java/lang/invoke/MethodHandle" ∧ yX5_charactersOf.cls ≠ "java/lang/invoke/VarHandle" ∧ (parseMethodDescriptor yX5_charactersOf.desc).map (fun d => d.parameters.length) = some 1 := ⟨by decide, by decide, by decide +kernel⟩
def f_X5_charactersOf  (p0 : Int64) : Option (Int32) := (f_X5_charactersOf_L5 bw_F  p0 p0 0)
set_option maxHeartbeats 4000000 in
set_option maxRecDepth 100000 in
theorem s_X5_charactersOf (l : Launch) (g : bwG)   (p0 : Int64) (res : Int32) (hf : f_X5_charactersOf  p0 = some res) : bwS l g yX5_charactersOf cX5_charactersOf 5 (some .int) ({ frames := 1, cells := 0, slots := 0, locals := 25 } : Room) [.long p0] ([]) (fun r w => r = some (.int res) ∧ w = []) := by
  refine bwS_of (by decide) (Nat.le_of_ble_eq_true rfl) ?_
  unfold f_X5_charactersOf at hf
  show bwR l g cX5_charactersOf 5 RX5 "charactersOf" (some .int) ({ frames := 1, cells := 0, slots := 0, locals := 25 } : Room) bwT (bwZ g (fun r w => r = some (.int res) ∧ w = []) 0 0) 0 [(0, .long p0)] [] ([]) 0 0
  refine bw_lload_n 0 dX5_charactersOf_0 rfl rfl ?_
  refine bw_lstore_n [(2, .long p0), (0, .long p0)] dX5_charactersOf_1 rfl (by decide) rfl ?_
  refine bw_iconst 0 dX5_charactersOf_2 (by decide) ?_
  refine bw_istore [(4, .int 0), (2, .long p0), (0, .long p0)] dX5_charactersOf_3 (by decide) rfl ?_
  refine bw_lv [2, 1, 0] rfl ?_
  exact s_X5_charactersOf_L5 l g  bw_F  p0 p0 0 _ hf
def f_X5_put_L29 : Nat → (Int32) → (Nat → Int32) → (Int64) → (Int32) → (Int32) → Option (Int32 × (Int32) × (Nat → Int32))
  | 0, _, _, _, _, _ => none
  | fu + 1, vh_textLong, vh_text, x1, x3, x4 => (if x3 ≤ x4 then some ((vh_textLong + x3), (vh_textLong + x3), vh_text) else (if bw_in ((vh_textLong + x4)) 60 then (f_X5_put_L29 fu vh_textLong ((upd vh_text (Int32.toNatClampNeg ((vh_textLong + x4))) ((((((bw_ushr x1 ((8 * ((x3 - 1) - x4)))) &&& 255)) : Int64).toInt32)))) x1 x3 ((x4 + 1))) else none))
set_option maxHeartbeats 4000000 in
set_option maxRecDepth 100000 in
theorem s_X5_put_L29 (l : Launch) (g : bwG) (ah ah_all ah_kept ah_history ah_slots ah_isSaved ah_words ah_left ah_seen ah_text ah_signs ah_pauses : Nat) (fu : Nat) : ∀ (vh_historyLong : Int32) (vh_groups : Int32) (vh_leftLong : Int32) (vh_textLong : Int32) (vh_spot : Int32) (vh_read : Int32) (vh_text : Nat → Int32) (x1 : Int64) (x3 : Int32) (x4 : Int32) (res : Int32 × (Int32) × (Nat → Int32)), f_X5_put_L29 fu vh_textLong vh_text x1 x3 x4 = some res → bwR l g cX5_put 5 RX5 "put" (some .int) ({ frames := 2, cells := 0, slots := 0, locals := 49 } : Room) bwT (bwZ g (fun r w => r = some (.int res.1) ∧ w = [(ah, .inr (5, [.ref ah_all, .ref ah_kept, .ref ah_history, .int vh_historyLong, .ref ah_slots, .ref ah_isSaved, .ref ah_words, .int vh_groups, .ref ah_left, .int vh_leftLong, .ref ah_seen, .ref ah_text, .int res.2.1, .int vh_spot, .ref ah_signs, .ref ah_pauses, .int vh_read])), (ah_text, .inl (g.2.1, 60, .inl res.2.2))]) 0 0) 29 [(0, .ref ah), (1, .long x1), (3, .int x3), (4, .int x4)] [] ([(ah, .inr (5, [.ref ah_all, .ref ah_kept, .ref ah_history, .int vh_historyLong, .ref ah_slots, .ref ah_isSaved, .ref ah_words, .int vh_groups, .ref ah_left, .int vh_leftLong, .ref ah_seen, .ref ah_text, .int vh_textLong, .int vh_spot, .ref ah_signs, .ref ah_pauses, .int vh_read])), (ah_text, .inl (g.2.1, 60, .inl vh_text))]) 0 0 := by
  induction fu with
  | zero => intro vh_historyLong vh_groups vh_leftLong vh_textLong vh_spot vh_read vh_text x1 x3 x4 res hf; exact absurd hf (by intro h; cases h)
  | succ fu ih =>
    intro vh_historyLong vh_groups vh_leftLong vh_textLong vh_spot vh_read vh_text x1 x3 x4 res hf
    rw [f_X5_put_L29] at hf
    refine bw_iload 3 dX5_put_29 rfl ?_
    refine bw_iload_n 2 dX5_put_31 rfl rfl ?_
    refine bw_icmp_ge 69 dX5_put_32 (by decide) (fun c_6 => ?_) (fun c_6 => ?_)
    · have hf := bw_pos c_6 hf
      refine bw_aload_n 0 dX5_put_69 rfl rfl ?_
      refine bw_dup dX5_put_70 rfl ?_
      refine bw_gf bkX5 0 12 (by decide) fl_X5_144 rfl rfl dX5_put_71 ?_
      refine bw_iload_n 2 dX5_put_74 rfl rfl ?_
      refine bw_iadd dX5_put_75 ?_
      refine bw_pf bkX5 0 12 ([(ah, .inr (5, [.ref ah_all, .ref ah_kept, .ref ah_history, .int vh_historyLong, .ref ah_slots, .ref ah_isSaved, .ref ah_words, .int vh_groups, .ref ah_left, .int vh_leftLong, .ref ah_seen, .ref ah_text, .int ((vh_textLong + x3)), .int vh_spot, .ref ah_signs, .ref ah_pauses, .int vh_read])), (ah_text, .inl (g.2.1, 60, .inl vh_text))]) (by decide) fl_X5_144 rfl rfl rfl rfl rfl (Nat.le_of_ble_eq_true rfl) rfl dX5_put_76 ?_
      refine bw_aload_n 0 dX5_put_79 rfl rfl ?_
      refine bw_gf bkX5 0 12 (by decide) fl_X5_144 rfl rfl dX5_put_80 ?_
      cases Option.some.inj hf
      exact bw_ret rfl rfl (Nat.le_of_ble_eq_true rfl) (Nat.le_of_ble_eq_true rfl) dX5_put_83 ⟨rfl, rfl⟩
    · have hf := bw_neg c_6 hf
      refine bw_aload_n 0 dX5_put_35 rfl rfl ?_
      refine bw_gf bkX5 0 11 (by decide) fl_X5_34 rfl rfl dX5_put_36 ?_
      refine bw_aload_n 0 dX5_put_39 rfl rfl ?_
      refine bw_gf bkX5 0 12 (by decide) fl_X5_144 rfl rfl dX5_put_40 ?_
      refine bw_iload 3 dX5_put_43 rfl ?_
      refine bw_iadd dX5_put_45 ?_
      refine bw_lload_n 1 dX5_put_46 rfl rfl ?_
      refine bw_bipush 8 dX5_put_47 (by decide) ?_
      refine bw_iload_n 2 dX5_put_49 rfl rfl ?_
      refine bw_iconst 1 dX5_put_50 (by decide) ?_
      refine bw_isub dX5_put_51 ?_
      refine bw_iload 3 dX5_put_52 rfl ?_
      refine bw_isub dX5_put_54 ?_
      refine bw_imul dX5_put_55 ?_
      refine bw_lushr dX5_put_56 ?_
      refine bw_ldc2 ct_X5_174 dX5_put_57 ?_
      refine bw_land dX5_put_60 ?_
      refine bw_l2i dX5_put_61 ?_
      obtain ⟨h_7, hf⟩ := bw_chk hf
      refine bw_iast 1 ([(ah, .inr (5, [.ref ah_all, .ref ah_kept, .ref ah_history, .int vh_historyLong, .ref ah_slots, .ref ah_isSaved, .ref ah_words, .int vh_groups, .ref ah_left, .int vh_leftLong, .ref ah_seen, .ref ah_text, .int vh_textLong, .int vh_spot, .ref ah_signs, .ref ah_pauses, .int vh_read])), (ah_text, .inl (g.2.1, 60, .inl ((upd vh_text (Int32.toNatClampNeg ((vh_textLong + x4))) ((((((bw_ushr x1 ((8 * ((x3 - 1) - x4)))) &&& 255)) : Int64).toInt32))))))]) rfl h_7 rfl dX5_put_62 ?_
      refine bw_iinc 3 (x4 + 1) [(4, .int ((x4 + 1))), (0, .ref ah), (1, .long x1), (3, .int x3)] dX5_put_63 rfl rfl (by decide) rfl ?_
      refine bw_goto 29 dX5_put_66 (by decide) ?_
      refine bw_lv [1, 2, 3, 0] rfl ?_
      exact ih vh_historyLong vh_groups vh_leftLong vh_textLong vh_spot vh_read ((upd vh_text (Int32.toNatClampNeg ((vh_textLong + x4))) ((((((bw_ushr x1 ((8 * ((x3 - 1) - x4)))) &&& 255)) : Int64).toInt32)))) x1 x3 ((x4 + 1)) _ hf
theorem ar_X5_put : yX5_put.cls ≠ "java/lang/invoke/MethodHandle" ∧ yX5_put.cls ≠ "java/lang/invoke/VarHandle" ∧ (parseMethodDescriptor yX5_put.desc).map (fun d => d.parameters.length) = some 1 := ⟨by decide, by decide, by decide +kernel⟩
def f_X5_put (vh_textLong : Int32) (vh_text : Nat → Int32) (p0 : Int64) : Option (Int32 × (Int32) × (Nat → Int32)) := ((f_X5_charactersOf p0).bind fun q_8 => (if q_8 = 0 then some ((-1000002), vh_textLong, vh_text) else (if (vh_textLong + q_8) ≤ 60 then (f_X5_put_L29 bw_F vh_textLong vh_text p0 q_8 0) else some ((-1000004), vh_textLong, vh_text))))
set_option maxHeartbeats 4000000 in
set_option maxRecDepth 100000 in
theorem s_X5_put (l : Launch) (g : bwG) (ah ah_all ah_kept ah_history ah_slots ah_isSaved ah_words ah_left ah_seen ah_text ah_signs ah_pauses : Nat) (vh_historyLong : Int32) (vh_groups : Int32) (vh_leftLong : Int32) (vh_textLong : Int32) (vh_spot : Int32) (vh_read : Int32) (vh_text : Nat → Int32) (p0 : Int64) (res : Int32 × (Int32) × (Nat → Int32)) (hf : f_X5_put vh_textLong vh_text p0 = some res) : bwS l g yX5_put cX5_put 5 (some .int) ({ frames := 2, cells := 0, slots := 0, locals := 49 } : Room) [.ref ah, .long p0] ([(ah, .inr (5, [.ref ah_all, .ref ah_kept, .ref ah_history, .int vh_historyLong, .ref ah_slots, .ref ah_isSaved, .ref ah_words, .int vh_groups, .ref ah_left, .int vh_leftLong, .ref ah_seen, .ref ah_text, .int vh_textLong, .int vh_spot, .ref ah_signs, .ref ah_pauses, .int vh_read])), (ah_text, .inl (g.2.1, 60, .inl vh_text))]) (fun r w => r = some (.int res.1) ∧ w = [(ah, .inr (5, [.ref ah_all, .ref ah_kept, .ref ah_history, .int vh_historyLong, .ref ah_slots, .ref ah_isSaved, .ref ah_words, .int vh_groups, .ref ah_left, .int vh_leftLong, .ref ah_seen, .ref ah_text, .int res.2.1, .int vh_spot, .ref ah_signs, .ref ah_pauses, .int vh_read])), (ah_text, .inl (g.2.1, 60, .inl res.2.2))]) := by
  refine bwS_of (by decide) (Nat.le_of_ble_eq_true rfl) ?_
  unfold f_X5_put at hf
  show bwR l g cX5_put 5 RX5 "put" (some .int) ({ frames := 2, cells := 0, slots := 0, locals := 49 } : Room) bwT (bwZ g (fun r w => r = some (.int res.1) ∧ w = [(ah, .inr (5, [.ref ah_all, .ref ah_kept, .ref ah_history, .int vh_historyLong, .ref ah_slots, .ref ah_isSaved, .ref ah_words, .int vh_groups, .ref ah_left, .int vh_leftLong, .ref ah_seen, .ref ah_text, .int res.2.1, .int vh_spot, .ref ah_signs, .ref ah_pauses, .int vh_read])), (ah_text, .inl (g.2.1, 60, .inl res.2.2))]) 0 0) 0 [(0, .ref ah), (1, .long p0)] [] ([(ah, .inr (5, [.ref ah_all, .ref ah_kept, .ref ah_history, .int vh_historyLong, .ref ah_slots, .ref ah_isSaved, .ref ah_words, .int vh_groups, .ref ah_left, .int vh_leftLong, .ref ah_seen, .ref ah_text, .int vh_textLong, .int vh_spot, .ref ah_signs, .ref ah_pauses, .int vh_read])), (ah_text, .inl (g.2.1, 60, .inl vh_text))]) 0 0
  refine bw_lload_n 1 dX5_put_0 rfl rfl ?_
  obtain ⟨q_8, hc_8, hf⟩ := bw_bind hf
  refine bw_callS [.long p0] [] [(ah, .inr (5, [.ref ah_all, .ref ah_kept, .ref ah_history, .int vh_historyLong, .ref ah_slots, .ref ah_isSaved, .ref ah_words, .int vh_groups, .ref ah_left, .int vh_leftLong, .ref ah_seen, .ref ah_text, .int vh_textLong, .int vh_spot, .ref ah_signs, .ref ah_pauses, .int vh_read])), (ah_text, .inl (g.2.1, 60, .inl vh_text))] (s_X5_charactersOf l g   p0 _ hc_8) rfl co_X5_charactersOf ini_X5 ml_X5_180 st_X5_charactersOf ar_X5_charactersOf ⟨Nat.le_of_ble_eq_true rfl, Nat.le_of_ble_eq_true rfl⟩ ⟨Nat.le_of_ble_eq_true rfl, Nat.le_of_ble_eq_true rfl⟩ (bw_pick1 2 [0, 1] rfl rfl (by decide)) (Nat.le_of_ble_eq_true rfl) dX5_put_1 (fun r w1 hq => ?_)
  obtain ⟨rfl, rfl⟩ := hq
  refine bw_perm (ws1 := [(ah, .inr (5, [.ref ah_all, .ref ah_kept, .ref ah_history, .int vh_historyLong, .ref ah_slots, .ref ah_isSaved, .ref ah_words, .int vh_groups, .ref ah_left, .int vh_leftLong, .ref ah_seen, .ref ah_text, .int vh_textLong, .int vh_spot, .ref ah_signs, .ref ah_pauses, .int vh_read])), (ah_text, .inl (g.2.1, 60, .inl vh_text))]) (bw_pick1 2 [0, 1] rfl rfl (by decide)) ?_
  refine bw_st (st1 := [.int q_8]) rfl ?_
  refine bw_istore_n [(3, .int q_8), (0, .ref ah), (1, .long p0)] dX5_put_4 rfl (by decide) rfl ?_
  refine bw_iload_n 0 dX5_put_5 rfl rfl ?_
  refine bw_if_ne 12 dX5_put_6 (by decide) (fun c_9 => ?_) (fun c_9 => ?_)
  · have hf := bw_neg c_9 hf
    refine bw_aload_n 1 dX5_put_12 rfl rfl ?_
    refine bw_gf bkX5 0 12 (by decide) fl_X5_144 rfl rfl dX5_put_13 ?_
    refine bw_iload_n 0 dX5_put_16 rfl rfl ?_
    refine bw_iadd dX5_put_17 ?_
    refine bw_bipush 60 dX5_put_18 (by decide) ?_
    refine bw_icmp_le 26 dX5_put_20 (by decide) (fun c_10 => ?_) (fun c_10 => ?_)
    · have hf := bw_pos c_10 hf
      refine bw_iconst 0 dX5_put_26 (by decide) ?_
      refine bw_istore [(4, .int 0), (3, .int q_8), (0, .ref ah), (1, .long p0)] dX5_put_27 (by decide) rfl ?_
      refine bw_lv [2, 3, 1, 0] rfl ?_
      exact s_X5_put_L29 l g ah ah_all ah_kept ah_history ah_slots ah_isSaved ah_words ah_left ah_seen ah_text ah_signs ah_pauses bw_F vh_historyLong vh_groups vh_leftLong vh_textLong vh_spot vh_read vh_text p0 q_8 0 _ hf
    · have hf := bw_neg c_10 hf
      refine bw_ldc ct_X5_131 dX5_put_23 ?_
      cases Option.some.inj hf
      exact bw_ret rfl rfl (Nat.le_of_ble_eq_true rfl) (Nat.le_of_ble_eq_true rfl) dX5_put_25 ⟨rfl, rfl⟩
  · have hf := bw_pos c_9 hf
    refine bw_ldc ct_X5_121 dX5_put_9 ?_
    cases Option.some.inj hf
    exact bw_ret rfl rfl (Nat.le_of_ble_eq_true rfl) (Nat.le_of_ble_eq_true rfl) dX5_put_11 ⟨rfl, rfl⟩
theorem ar_X5_wipe : yX5_wipe.cls ≠ "java/lang/invoke/MethodHandle" ∧ yX5_wipe.cls ≠ "java/lang/invoke/VarHandle" ∧ (parseMethodDescriptor yX5_wipe.desc).map (fun d => d.parameters.length) = some 0 := ⟨by decide, by decide, by decide +kernel⟩
def f_X5_wipe (vh_textLong : Int32)  : Option (Int32 × (Int32)) := some (vh_textLong, 0)
set_option maxHeartbeats 4000000 in
set_option maxRecDepth 100000 in
theorem s_X5_wipe (l : Launch) (g : bwG) (ah ah_all ah_kept ah_history ah_slots ah_isSaved ah_words ah_left ah_seen ah_text ah_signs ah_pauses : Nat) (vh_historyLong : Int32) (vh_groups : Int32) (vh_leftLong : Int32) (vh_textLong : Int32) (vh_spot : Int32) (vh_read : Int32)  (res : Int32 × (Int32)) (hf : f_X5_wipe vh_textLong  = some res) : bwS l g yX5_wipe cX5_wipe 2 (some .int) ({ frames := 0, cells := 0, slots := 0, locals := 0 } : Room) [.ref ah] ([(ah, .inr (5, [.ref ah_all, .ref ah_kept, .ref ah_history, .int vh_historyLong, .ref ah_slots, .ref ah_isSaved, .ref ah_words, .int vh_groups, .ref ah_left, .int vh_leftLong, .ref ah_seen, .ref ah_text, .int vh_textLong, .int vh_spot, .ref ah_signs, .ref ah_pauses, .int vh_read]))]) (fun r w => r = some (.int res.1) ∧ w = [(ah, .inr (5, [.ref ah_all, .ref ah_kept, .ref ah_history, .int vh_historyLong, .ref ah_slots, .ref ah_isSaved, .ref ah_words, .int vh_groups, .ref ah_left, .int vh_leftLong, .ref ah_seen, .ref ah_text, .int res.2, .int vh_spot, .ref ah_signs, .ref ah_pauses, .int vh_read]))]) := by
  refine bwS_of (by decide) (Nat.le_of_ble_eq_true rfl) ?_
  unfold f_X5_wipe at hf
  show bwR l g cX5_wipe 2 RX5 "wipe" (some .int) ({ frames := 0, cells := 0, slots := 0, locals := 0 } : Room) bwT (bwZ g (fun r w => r = some (.int res.1) ∧ w = [(ah, .inr (5, [.ref ah_all, .ref ah_kept, .ref ah_history, .int vh_historyLong, .ref ah_slots, .ref ah_isSaved, .ref ah_words, .int vh_groups, .ref ah_left, .int vh_leftLong, .ref ah_seen, .ref ah_text, .int res.2, .int vh_spot, .ref ah_signs, .ref ah_pauses, .int vh_read]))]) 0 0) 0 [(0, .ref ah)] [] ([(ah, .inr (5, [.ref ah_all, .ref ah_kept, .ref ah_history, .int vh_historyLong, .ref ah_slots, .ref ah_isSaved, .ref ah_words, .int vh_groups, .ref ah_left, .int vh_leftLong, .ref ah_seen, .ref ah_text, .int vh_textLong, .int vh_spot, .ref ah_signs, .ref ah_pauses, .int vh_read]))]) 0 0
  refine bw_aload_n 0 dX5_wipe_0 rfl rfl ?_
  refine bw_gf bkX5 0 12 (by decide) fl_X5_144 rfl rfl dX5_wipe_1 ?_
  refine bw_istore_n [(1, .int vh_textLong), (0, .ref ah)] dX5_wipe_4 rfl (by decide) rfl ?_
  refine bw_aload_n 1 dX5_wipe_5 rfl rfl ?_
  refine bw_iconst 0 dX5_wipe_6 (by decide) ?_
  refine bw_pf bkX5 0 12 ([(ah, .inr (5, [.ref ah_all, .ref ah_kept, .ref ah_history, .int vh_historyLong, .ref ah_slots, .ref ah_isSaved, .ref ah_words, .int vh_groups, .ref ah_left, .int vh_leftLong, .ref ah_seen, .ref ah_text, .int 0, .int vh_spot, .ref ah_signs, .ref ah_pauses, .int vh_read]))]) (by decide) fl_X5_144 rfl rfl rfl rfl rfl (Nat.le_of_ble_eq_true rfl) rfl dX5_wipe_7 ?_
  refine bw_iload_n 0 dX5_wipe_10 rfl rfl ?_
  cases Option.some.inj hf
  exact bw_ret rfl rfl (Nat.le_of_ble_eq_true rfl) (Nat.le_of_ble_eq_true rfl) dX5_wipe_11 ⟨rfl, rfl⟩
def f_X5_undo_L22 : Nat → (Int32) → (Nat → Int32) → (Nat → Int32) → (Int32) → Option (Int32 × (Int32) × (Nat → Int32))
  | 0, _, _, _, _ => none
  | fu + 1, vh_historyLong, vh_all, vh_history, x1 => (if 120 ≤ x1 then some (vh_historyLong, vh_historyLong, vh_all) else (if bw_in (((120 * vh_historyLong) + x1)) 720 then (if bw_in x1 120 then (f_X5_undo_L22 fu vh_historyLong ((upd vh_all (Int32.toNatClampNeg x1) ((vh_history (Int32.toNatClampNeg (((120 * vh_historyLong) + x1))))))) vh_history ((x1 + 1))) else none) else none))
set_option maxHeartbeats 4000000 in
set_option maxRecDepth 100000 in
theorem s_X5_undo_L22 (l : Launch) (g : bwG) (ah ah_all ah_kept ah_history ah_slots ah_isSaved ah_words ah_left ah_seen ah_text ah_signs ah_pauses : Nat) (fu : Nat) : ∀ (vh_historyLong : Int32) (vh_groups : Int32) (vh_leftLong : Int32) (vh_textLong : Int32) (vh_spot : Int32) (vh_read : Int32) (vh_all : Nat → Int32) (vh_history : Nat → Int32) (x1 : Int32) (res : Int32 × (Int32) × (Nat → Int32)), f_X5_undo_L22 fu vh_historyLong vh_all vh_history x1 = some res → bwR l g cX5_undo 2 RX5 "undo" (some .int) ({ frames := 0, cells := 0, slots := 0, locals := 0 } : Room) bwT (bwZ g (fun r w => r = some (.int res.1) ∧ w = [(ah, .inr (5, [.ref ah_all, .ref ah_kept, .ref ah_history, .int res.2.1, .ref ah_slots, .ref ah_isSaved, .ref ah_words, .int vh_groups, .ref ah_left, .int vh_leftLong, .ref ah_seen, .ref ah_text, .int vh_textLong, .int vh_spot, .ref ah_signs, .ref ah_pauses, .int vh_read])), (ah_all, .inl (g.2.1, 120, .inl res.2.2)), (ah_history, .inl (g.2.1, 720, .inl vh_history))]) 0 0) 22 [(0, .ref ah), (1, .int x1)] [] ([(ah, .inr (5, [.ref ah_all, .ref ah_kept, .ref ah_history, .int vh_historyLong, .ref ah_slots, .ref ah_isSaved, .ref ah_words, .int vh_groups, .ref ah_left, .int vh_leftLong, .ref ah_seen, .ref ah_text, .int vh_textLong, .int vh_spot, .ref ah_signs, .ref ah_pauses, .int vh_read])), (ah_all, .inl (g.2.1, 120, .inl vh_all)), (ah_history, .inl (g.2.1, 720, .inl vh_history))]) 0 0 := by
  induction fu with
  | zero => intro vh_historyLong vh_groups vh_leftLong vh_textLong vh_spot vh_read vh_all vh_history x1 res hf; exact absurd hf (by intro h; cases h)
  | succ fu ih =>
    intro vh_historyLong vh_groups vh_leftLong vh_textLong vh_spot vh_read vh_all vh_history x1 res hf
    rw [f_X5_undo_L22] at hf
    refine bw_iload_n 1 dX5_undo_22 rfl rfl ?_
    refine bw_bipush 120 dX5_undo_23 (by decide) ?_
    refine bw_icmp_ge 54 dX5_undo_25 (by decide) (fun c_5 => ?_) (fun c_5 => ?_)
    · have hf := bw_pos c_5 hf
      refine bw_aload_n 0 dX5_undo_54 rfl rfl ?_
      refine bw_gf bkX5 0 3 (by decide) fl_X5_43 rfl rfl dX5_undo_55 ?_
      cases Option.some.inj hf
      exact bw_ret rfl rfl (Nat.le_of_ble_eq_true rfl) (Nat.le_of_ble_eq_true rfl) dX5_undo_58 ⟨rfl, rfl⟩
    · have hf := bw_neg c_5 hf
      refine bw_aload_n 0 dX5_undo_28 rfl rfl ?_
      refine bw_gf bkX5 0 0 (by decide) fl_X5_7 rfl rfl dX5_undo_29 ?_
      refine bw_iload_n 1 dX5_undo_32 rfl rfl ?_
      refine bw_aload_n 0 dX5_undo_33 rfl rfl ?_
      refine bw_gf bkX5 0 2 (by decide) fl_X5_16 rfl rfl dX5_undo_34 ?_
      refine bw_bipush 120 dX5_undo_37 (by decide) ?_
      refine bw_aload_n 0 dX5_undo_39 rfl rfl ?_
      refine bw_gf bkX5 0 3 (by decide) fl_X5_43 rfl rfl dX5_undo_40 ?_
      refine bw_imul dX5_undo_43 ?_
      refine bw_iload_n 1 dX5_undo_44 rfl rfl ?_
      refine bw_iadd dX5_undo_45 ?_
      obtain ⟨h_6, hf⟩ := bw_chk hf
      refine bw_iald 2 rfl h_6 dX5_undo_46 ?_
      obtain ⟨h_7, hf⟩ := bw_chk hf
      refine bw_iast 1 ([(ah, .inr (5, [.ref ah_all, .ref ah_kept, .ref ah_history, .int vh_historyLong, .ref ah_slots, .ref ah_isSaved, .ref ah_words, .int vh_groups, .ref ah_left, .int vh_leftLong, .ref ah_seen, .ref ah_text, .int vh_textLong, .int vh_spot, .ref ah_signs, .ref ah_pauses, .int vh_read])), (ah_all, .inl (g.2.1, 120, .inl ((upd vh_all (Int32.toNatClampNeg x1) ((vh_history (Int32.toNatClampNeg (((120 * vh_historyLong) + x1))))))))), (ah_history, .inl (g.2.1, 720, .inl vh_history))]) rfl h_7 rfl dX5_undo_47 ?_
      refine bw_iinc 1 (x1 + 1) [(1, .int ((x1 + 1))), (0, .ref ah)] dX5_undo_48 rfl rfl (by decide) rfl ?_
      refine bw_goto 22 dX5_undo_51 (by decide) ?_
      refine bw_lv [1, 0] rfl ?_
      exact ih vh_historyLong vh_groups vh_leftLong vh_textLong vh_spot vh_read ((upd vh_all (Int32.toNatClampNeg x1) ((vh_history (Int32.toNatClampNeg (((120 * vh_historyLong) + x1))))))) vh_history ((x1 + 1)) _ hf
theorem ar_X5_undo : yX5_undo.cls ≠ "java/lang/invoke/MethodHandle" ∧ yX5_undo.cls ≠ "java/lang/invoke/VarHandle" ∧ (parseMethodDescriptor yX5_undo.desc).map (fun d => d.parameters.length) = some 0 := ⟨by decide, by decide, by decide +kernel⟩
def f_X5_undo (vh_historyLong : Int32) (vh_all : Nat → Int32) (vh_history : Nat → Int32)  : Option (Int32 × (Int32) × (Nat → Int32)) := (if vh_historyLong = 0 then some ((-1000005), vh_historyLong, vh_all) else (f_X5_undo_L22 bw_F ((vh_historyLong - 1)) vh_all vh_history 0))
set_option maxHeartbeats 4000000 in
set_option maxRecDepth 100000 in
theorem s_X5_undo (l : Launch) (g : bwG) (ah ah_all ah_kept ah_history ah_slots ah_isSaved ah_words ah_left ah_seen ah_text ah_signs ah_pauses : Nat) (vh_historyLong : Int32) (vh_groups : Int32) (vh_leftLong : Int32) (vh_textLong : Int32) (vh_spot : Int32) (vh_read : Int32) (vh_all : Nat → Int32) (vh_history : Nat → Int32)  (res : Int32 × (Int32) × (Nat → Int32)) (hf : f_X5_undo vh_historyLong vh_all vh_history  = some res) : bwS l g yX5_undo cX5_undo 2 (some .int) ({ frames := 0, cells := 0, slots := 0, locals := 0 } : Room) [.ref ah] ([(ah, .inr (5, [.ref ah_all, .ref ah_kept, .ref ah_history, .int vh_historyLong, .ref ah_slots, .ref ah_isSaved, .ref ah_words, .int vh_groups, .ref ah_left, .int vh_leftLong, .ref ah_seen, .ref ah_text, .int vh_textLong, .int vh_spot, .ref ah_signs, .ref ah_pauses, .int vh_read])), (ah_all, .inl (g.2.1, 120, .inl vh_all)), (ah_history, .inl (g.2.1, 720, .inl vh_history))]) (fun r w => r = some (.int res.1) ∧ w = [(ah, .inr (5, [.ref ah_all, .ref ah_kept, .ref ah_history, .int res.2.1, .ref ah_slots, .ref ah_isSaved, .ref ah_words, .int vh_groups, .ref ah_left, .int vh_leftLong, .ref ah_seen, .ref ah_text, .int vh_textLong, .int vh_spot, .ref ah_signs, .ref ah_pauses, .int vh_read])), (ah_all, .inl (g.2.1, 120, .inl res.2.2)), (ah_history, .inl (g.2.1, 720, .inl vh_history))]) := by
  refine bwS_of (by decide) (Nat.le_of_ble_eq_true rfl) ?_
  unfold f_X5_undo at hf
  show bwR l g cX5_undo 2 RX5 "undo" (some .int) ({ frames := 0, cells := 0, slots := 0, locals := 0 } : Room) bwT (bwZ g (fun r w => r = some (.int res.1) ∧ w = [(ah, .inr (5, [.ref ah_all, .ref ah_kept, .ref ah_history, .int res.2.1, .ref ah_slots, .ref ah_isSaved, .ref ah_words, .int vh_groups, .ref ah_left, .int vh_leftLong, .ref ah_seen, .ref ah_text, .int vh_textLong, .int vh_spot, .ref ah_signs, .ref ah_pauses, .int vh_read])), (ah_all, .inl (g.2.1, 120, .inl res.2.2)), (ah_history, .inl (g.2.1, 720, .inl vh_history))]) 0 0) 0 [(0, .ref ah)] [] ([(ah, .inr (5, [.ref ah_all, .ref ah_kept, .ref ah_history, .int vh_historyLong, .ref ah_slots, .ref ah_isSaved, .ref ah_words, .int vh_groups, .ref ah_left, .int vh_leftLong, .ref ah_seen, .ref ah_text, .int vh_textLong, .int vh_spot, .ref ah_signs, .ref ah_pauses, .int vh_read])), (ah_all, .inl (g.2.1, 120, .inl vh_all)), (ah_history, .inl (g.2.1, 720, .inl vh_history))]) 0 0
  refine bw_aload_n 0 dX5_undo_0 rfl rfl ?_
  refine bw_gf bkX5 0 3 (by decide) fl_X5_43 rfl rfl dX5_undo_1 ?_
  refine bw_if_ne 10 dX5_undo_4 (by decide) (fun c_8 => ?_) (fun c_8 => ?_)
  · have hf := bw_neg c_8 hf
    refine bw_aload_n 0 dX5_undo_10 rfl rfl ?_
    refine bw_dup dX5_undo_11 rfl ?_
    refine bw_gf bkX5 0 3 (by decide) fl_X5_43 rfl rfl dX5_undo_12 ?_
    refine bw_iconst 1 dX5_undo_15 (by decide) ?_
    refine bw_isub dX5_undo_16 ?_
    refine bw_pf bkX5 0 3 ([(ah, .inr (5, [.ref ah_all, .ref ah_kept, .ref ah_history, .int ((vh_historyLong - 1)), .ref ah_slots, .ref ah_isSaved, .ref ah_words, .int vh_groups, .ref ah_left, .int vh_leftLong, .ref ah_seen, .ref ah_text, .int vh_textLong, .int vh_spot, .ref ah_signs, .ref ah_pauses, .int vh_read])), (ah_all, .inl (g.2.1, 120, .inl vh_all)), (ah_history, .inl (g.2.1, 720, .inl vh_history))]) (by decide) fl_X5_43 rfl rfl rfl rfl rfl (Nat.le_of_ble_eq_true rfl) rfl dX5_undo_17 ?_
    refine bw_iconst 0 dX5_undo_20 (by decide) ?_
    refine bw_istore_n [(1, .int 0), (0, .ref ah)] dX5_undo_21 rfl (by decide) rfl ?_
    refine bw_lv [1, 0] rfl ?_
    exact s_X5_undo_L22 l g ah ah_all ah_kept ah_history ah_slots ah_isSaved ah_words ah_left ah_seen ah_text ah_signs ah_pauses bw_F ((vh_historyLong - 1)) vh_groups vh_leftLong vh_textLong vh_spot vh_read vh_all vh_history 0 _ hf
  · have hf := bw_pos c_8 hf
    refine bw_ldc ct_X5_136 dX5_undo_7 ?_
    cases Option.some.inj hf
    exact bw_ret rfl rfl (Nat.le_of_ble_eq_true rfl) (Nat.le_of_ble_eq_true rfl) dX5_undo_9 ⟨rfl, rfl⟩
theorem ar_X5_isSlot : yX5_isSlot.cls ≠ "java/lang/invoke/MethodHandle" ∧ yX5_isSlot.cls ≠ "java/lang/invoke/VarHandle" ∧ (parseMethodDescriptor yX5_isSlot.desc).map (fun d => d.parameters.length) = some 1 := ⟨by decide, by decide, by decide +kernel⟩
def f_X5_isSlot  (p0 : Int32) : Option (Int32) := (if p0 = 0 then some 1 else (if p0 = 1 then some 1 else some 0))
set_option maxHeartbeats 4000000 in
set_option maxRecDepth 100000 in
theorem s_X5_isSlot (l : Launch) (g : bwG)   (p0 : Int32) (res : Int32) (hf : f_X5_isSlot  p0 = some res) : bwS l g yX5_isSlot cX5_isSlot 1 (some .boolean) ({ frames := 0, cells := 0, slots := 0, locals := 0 } : Room) [.int p0] ([]) (fun r w => r = some (.int res) ∧ w = []) := by
  refine bwS_of (by decide) (Nat.le_of_ble_eq_true rfl) ?_
  unfold f_X5_isSlot at hf
  show bwR l g cX5_isSlot 1 RX5 "isSlot" (some .boolean) ({ frames := 0, cells := 0, slots := 0, locals := 0 } : Room) bwT (bwZ g (fun r w => r = some (.int res) ∧ w = []) 0 0) 0 [(0, .int p0)] [] ([]) 0 0
  refine bw_iload_n 0 dX5_isSlot_0 rfl rfl ?_
  refine bw_if_eq 9 dX5_isSlot_1 (by decide) (fun c_3 => ?_) (fun c_3 => ?_)
  · have hf := bw_pos c_3 hf
    refine bw_iconst 1 dX5_isSlot_9 (by decide) ?_
    refine bw_goto 14 dX5_isSlot_10 (by decide) ?_
    cases Option.some.inj hf
    exact bw_ret rfl rfl (Nat.le_of_ble_eq_true rfl) (Nat.le_of_ble_eq_true rfl) dX5_isSlot_14 ⟨rfl, rfl⟩
  · have hf := bw_neg c_3 hf
    refine bw_iload_n 0 dX5_isSlot_4 rfl rfl ?_
    refine bw_iconst 1 dX5_isSlot_5 (by decide) ?_
    refine bw_icmp_ne 13 dX5_isSlot_6 (by decide) (fun c_4 => ?_) (fun c_4 => ?_)
    · have hf := bw_neg c_4 hf
      refine bw_iconst 0 dX5_isSlot_13 (by decide) ?_
      cases Option.some.inj hf
      exact bw_ret rfl rfl (Nat.le_of_ble_eq_true rfl) (Nat.le_of_ble_eq_true rfl) dX5_isSlot_14 ⟨rfl, rfl⟩
    · have hf := bw_pos c_4 hf
      refine bw_iconst 1 dX5_isSlot_9 (by decide) ?_
      refine bw_goto 14 dX5_isSlot_10 (by decide) ?_
      cases Option.some.inj hf
      exact bw_ret rfl rfl (Nat.le_of_ble_eq_true rfl) (Nat.le_of_ble_eq_true rfl) dX5_isSlot_14 ⟨rfl, rfl⟩
def f_X5_save_L12 : Nat → (Nat → Int32) → (Nat → Int32) → (Nat → Int32) → (Int32) → (Int32) → Option (Int32 × (Nat → Int32) × (Nat → Int32))
  | 0, _, _, _, _, _ => none
  | fu + 1, vh_all, vh_slots, vh_isSaved, x1, x2 => (if 120 ≤ x2 then (if bw_in x1 2 then (if bw_in 3 120 then some ((vh_all (Int32.toNatClampNeg 3)), vh_slots, (upd vh_isSaved (Int32.toNatClampNeg x1) 1)) else none) else none) else (if bw_in x2 120 then (if bw_in (((120 * x1) + x2)) 240 then (f_X5_save_L12 fu vh_all ((upd vh_slots (Int32.toNatClampNeg (((120 * x1) + x2))) ((vh_all (Int32.toNatClampNeg x2))))) vh_isSaved x1 ((x2 + 1))) else none) else none))
set_option maxHeartbeats 4000000 in
set_option maxRecDepth 100000 in
theorem s_X5_save_L12 (l : Launch) (g : bwG) (ah ah_all ah_kept ah_history ah_slots ah_isSaved ah_words ah_left ah_seen ah_text ah_signs ah_pauses : Nat) (fu : Nat) : ∀ (vh_historyLong : Int32) (vh_groups : Int32) (vh_leftLong : Int32) (vh_textLong : Int32) (vh_spot : Int32) (vh_read : Int32) (vh_all : Nat → Int32) (vh_slots : Nat → Int32) (vh_isSaved : Nat → Int32) (x1 : Int32) (x2 : Int32) (res : Int32 × (Nat → Int32) × (Nat → Int32)), f_X5_save_L12 fu vh_all vh_slots vh_isSaved x1 x2 = some res → bwR l g cX5_save 3 RX5 "save" (some .int) ({ frames := 1, cells := 0, slots := 0, locals := 20 } : Room) bwT (bwZ g (fun r w => r = some (.int res.1) ∧ w = [(ah, .inr (5, [.ref ah_all, .ref ah_kept, .ref ah_history, .int vh_historyLong, .ref ah_slots, .ref ah_isSaved, .ref ah_words, .int vh_groups, .ref ah_left, .int vh_leftLong, .ref ah_seen, .ref ah_text, .int vh_textLong, .int vh_spot, .ref ah_signs, .ref ah_pauses, .int vh_read])), (ah_all, .inl (g.2.1, 120, .inl vh_all)), (ah_slots, .inl (g.2.1, 240, .inl res.2.1)), (ah_isSaved, .inl (g.2.1, 2, .inl res.2.2))]) 0 0) 12 [(0, .ref ah), (1, .int x1), (2, .int x2)] [] ([(ah, .inr (5, [.ref ah_all, .ref ah_kept, .ref ah_history, .int vh_historyLong, .ref ah_slots, .ref ah_isSaved, .ref ah_words, .int vh_groups, .ref ah_left, .int vh_leftLong, .ref ah_seen, .ref ah_text, .int vh_textLong, .int vh_spot, .ref ah_signs, .ref ah_pauses, .int vh_read])), (ah_all, .inl (g.2.1, 120, .inl vh_all)), (ah_slots, .inl (g.2.1, 240, .inl vh_slots)), (ah_isSaved, .inl (g.2.1, 2, .inl vh_isSaved))]) 0 0 := by
  induction fu with
  | zero => intro vh_historyLong vh_groups vh_leftLong vh_textLong vh_spot vh_read vh_all vh_slots vh_isSaved x1 x2 res hf; exact absurd hf (by intro h; cases h)
  | succ fu ih =>
    intro vh_historyLong vh_groups vh_leftLong vh_textLong vh_spot vh_read vh_all vh_slots vh_isSaved x1 x2 res hf
    rw [f_X5_save_L12] at hf
    refine bw_iload_n 2 dX5_save_12 rfl rfl ?_
    refine bw_bipush 120 dX5_save_13 (by decide) ?_
    refine bw_icmp_ge 41 dX5_save_15 (by decide) (fun c_8 => ?_) (fun c_8 => ?_)
    · have hf := bw_pos c_8 hf
      refine bw_aload_n 0 dX5_save_41 rfl rfl ?_
      refine bw_gf bkX5 0 5 (by decide) fl_X5_22 rfl rfl dX5_save_42 ?_
      refine bw_iload_n 1 dX5_save_45 rfl rfl ?_
      refine bw_iconst 1 dX5_save_46 (by decide) ?_
      obtain ⟨h_9, hf⟩ := bw_chk hf
      refine bw_iast 3 ([(ah, .inr (5, [.ref ah_all, .ref ah_kept, .ref ah_history, .int vh_historyLong, .ref ah_slots, .ref ah_isSaved, .ref ah_words, .int vh_groups, .ref ah_left, .int vh_leftLong, .ref ah_seen, .ref ah_text, .int vh_textLong, .int vh_spot, .ref ah_signs, .ref ah_pauses, .int vh_read])), (ah_all, .inl (g.2.1, 120, .inl vh_all)), (ah_slots, .inl (g.2.1, 240, .inl vh_slots)), (ah_isSaved, .inl (g.2.1, 2, .inl ((upd vh_isSaved (Int32.toNatClampNeg x1) 1))))]) rfl h_9 rfl dX5_save_47 ?_
      refine bw_aload_n 0 dX5_save_48 rfl rfl ?_
      refine bw_gf bkX5 0 0 (by decide) fl_X5_7 rfl rfl dX5_save_49 ?_
      refine bw_iconst 3 dX5_save_52 (by decide) ?_
      obtain ⟨h_10, hf⟩ := bw_chk hf
      refine bw_iald 1 rfl h_10 dX5_save_53 ?_
      cases Option.some.inj hf
      exact bw_ret rfl rfl (Nat.le_of_ble_eq_true rfl) (Nat.le_of_ble_eq_true rfl) dX5_save_54 ⟨rfl, rfl⟩
    · have hf := bw_neg c_8 hf
      refine bw_aload_n 0 dX5_save_18 rfl rfl ?_
      refine bw_gf bkX5 0 4 (by decide) fl_X5_19 rfl rfl dX5_save_19 ?_
      refine bw_bipush 120 dX5_save_22 (by decide) ?_
      refine bw_iload_n 1 dX5_save_24 rfl rfl ?_
      refine bw_imul dX5_save_25 ?_
      refine bw_iload_n 2 dX5_save_26 rfl rfl ?_
      refine bw_iadd dX5_save_27 ?_
      refine bw_aload_n 0 dX5_save_28 rfl rfl ?_
      refine bw_gf bkX5 0 0 (by decide) fl_X5_7 rfl rfl dX5_save_29 ?_
      refine bw_iload_n 2 dX5_save_32 rfl rfl ?_
      obtain ⟨h_11, hf⟩ := bw_chk hf
      refine bw_iald 1 rfl h_11 dX5_save_33 ?_
      obtain ⟨h_12, hf⟩ := bw_chk hf
      refine bw_iast 2 ([(ah, .inr (5, [.ref ah_all, .ref ah_kept, .ref ah_history, .int vh_historyLong, .ref ah_slots, .ref ah_isSaved, .ref ah_words, .int vh_groups, .ref ah_left, .int vh_leftLong, .ref ah_seen, .ref ah_text, .int vh_textLong, .int vh_spot, .ref ah_signs, .ref ah_pauses, .int vh_read])), (ah_all, .inl (g.2.1, 120, .inl vh_all)), (ah_slots, .inl (g.2.1, 240, .inl ((upd vh_slots (Int32.toNatClampNeg (((120 * x1) + x2))) ((vh_all (Int32.toNatClampNeg x2))))))), (ah_isSaved, .inl (g.2.1, 2, .inl vh_isSaved))]) rfl h_12 rfl dX5_save_34 ?_
      refine bw_iinc 2 (x2 + 1) [(2, .int ((x2 + 1))), (0, .ref ah), (1, .int x1)] dX5_save_35 rfl rfl (by decide) rfl ?_
      refine bw_goto 12 dX5_save_38 (by decide) ?_
      refine bw_lv [1, 2, 0] rfl ?_
      exact ih vh_historyLong vh_groups vh_leftLong vh_textLong vh_spot vh_read vh_all ((upd vh_slots (Int32.toNatClampNeg (((120 * x1) + x2))) ((vh_all (Int32.toNatClampNeg x2))))) vh_isSaved x1 ((x2 + 1)) _ hf
theorem ar_X5_save : yX5_save.cls ≠ "java/lang/invoke/MethodHandle" ∧ yX5_save.cls ≠ "java/lang/invoke/VarHandle" ∧ (parseMethodDescriptor yX5_save.desc).map (fun d => d.parameters.length) = some 1 := ⟨by decide, by decide, by decide +kernel⟩
def f_X5_save (vh_all : Nat → Int32) (vh_slots : Nat → Int32) (vh_isSaved : Nat → Int32) (p0 : Int32) : Option (Int32 × (Nat → Int32) × (Nat → Int32)) := ((f_X5_isSlot p0).bind fun q_13 => (if q_13 = 0 then some ((-1000002), vh_slots, vh_isSaved) else (f_X5_save_L12 bw_F vh_all vh_slots vh_isSaved p0 0)))
set_option maxHeartbeats 4000000 in
set_option maxRecDepth 100000 in
theorem s_X5_save (l : Launch) (g : bwG) (ah ah_all ah_kept ah_history ah_slots ah_isSaved ah_words ah_left ah_seen ah_text ah_signs ah_pauses : Nat) (vh_historyLong : Int32) (vh_groups : Int32) (vh_leftLong : Int32) (vh_textLong : Int32) (vh_spot : Int32) (vh_read : Int32) (vh_all : Nat → Int32) (vh_slots : Nat → Int32) (vh_isSaved : Nat → Int32) (p0 : Int32) (res : Int32 × (Nat → Int32) × (Nat → Int32)) (hf : f_X5_save vh_all vh_slots vh_isSaved p0 = some res) : bwS l g yX5_save cX5_save 3 (some .int) ({ frames := 1, cells := 0, slots := 0, locals := 20 } : Room) [.ref ah, .int p0] ([(ah, .inr (5, [.ref ah_all, .ref ah_kept, .ref ah_history, .int vh_historyLong, .ref ah_slots, .ref ah_isSaved, .ref ah_words, .int vh_groups, .ref ah_left, .int vh_leftLong, .ref ah_seen, .ref ah_text, .int vh_textLong, .int vh_spot, .ref ah_signs, .ref ah_pauses, .int vh_read])), (ah_all, .inl (g.2.1, 120, .inl vh_all)), (ah_slots, .inl (g.2.1, 240, .inl vh_slots)), (ah_isSaved, .inl (g.2.1, 2, .inl vh_isSaved))]) (fun r w => r = some (.int res.1) ∧ w = [(ah, .inr (5, [.ref ah_all, .ref ah_kept, .ref ah_history, .int vh_historyLong, .ref ah_slots, .ref ah_isSaved, .ref ah_words, .int vh_groups, .ref ah_left, .int vh_leftLong, .ref ah_seen, .ref ah_text, .int vh_textLong, .int vh_spot, .ref ah_signs, .ref ah_pauses, .int vh_read])), (ah_all, .inl (g.2.1, 120, .inl vh_all)), (ah_slots, .inl (g.2.1, 240, .inl res.2.1)), (ah_isSaved, .inl (g.2.1, 2, .inl res.2.2))]) := by
  refine bwS_of (by decide) (Nat.le_of_ble_eq_true rfl) ?_
  unfold f_X5_save at hf
  show bwR l g cX5_save 3 RX5 "save" (some .int) ({ frames := 1, cells := 0, slots := 0, locals := 20 } : Room) bwT (bwZ g (fun r w => r = some (.int res.1) ∧ w = [(ah, .inr (5, [.ref ah_all, .ref ah_kept, .ref ah_history, .int vh_historyLong, .ref ah_slots, .ref ah_isSaved, .ref ah_words, .int vh_groups, .ref ah_left, .int vh_leftLong, .ref ah_seen, .ref ah_text, .int vh_textLong, .int vh_spot, .ref ah_signs, .ref ah_pauses, .int vh_read])), (ah_all, .inl (g.2.1, 120, .inl vh_all)), (ah_slots, .inl (g.2.1, 240, .inl res.2.1)), (ah_isSaved, .inl (g.2.1, 2, .inl res.2.2))]) 0 0) 0 [(0, .ref ah), (1, .int p0)] [] ([(ah, .inr (5, [.ref ah_all, .ref ah_kept, .ref ah_history, .int vh_historyLong, .ref ah_slots, .ref ah_isSaved, .ref ah_words, .int vh_groups, .ref ah_left, .int vh_leftLong, .ref ah_seen, .ref ah_text, .int vh_textLong, .int vh_spot, .ref ah_signs, .ref ah_pauses, .int vh_read])), (ah_all, .inl (g.2.1, 120, .inl vh_all)), (ah_slots, .inl (g.2.1, 240, .inl vh_slots)), (ah_isSaved, .inl (g.2.1, 2, .inl vh_isSaved))]) 0 0
  refine bw_iload_n 1 dX5_save_0 rfl rfl ?_
  obtain ⟨q_13, hc_13, hf⟩ := bw_bind hf
  refine bw_callS [.int p0] [] [(ah, .inr (5, [.ref ah_all, .ref ah_kept, .ref ah_history, .int vh_historyLong, .ref ah_slots, .ref ah_isSaved, .ref ah_words, .int vh_groups, .ref ah_left, .int vh_leftLong, .ref ah_seen, .ref ah_text, .int vh_textLong, .int vh_spot, .ref ah_signs, .ref ah_pauses, .int vh_read])), (ah_all, .inl (g.2.1, 120, .inl vh_all)), (ah_slots, .inl (g.2.1, 240, .inl vh_slots)), (ah_isSaved, .inl (g.2.1, 2, .inl vh_isSaved))] (s_X5_isSlot l g   p0 _ hc_13) rfl co_X5_isSlot ini_X5 ml_X5_196 st_X5_isSlot ar_X5_isSlot ⟨Nat.le_of_ble_eq_true rfl, Nat.le_of_ble_eq_true rfl⟩ ⟨Nat.le_of_ble_eq_true rfl, Nat.le_of_ble_eq_true rfl⟩ (bw_pick1 4 [0, 1, 2, 3] rfl rfl (by decide)) (Nat.le_of_ble_eq_true rfl) dX5_save_1 (fun r w1 hq => ?_)
  obtain ⟨rfl, rfl⟩ := hq
  refine bw_perm (ws1 := [(ah, .inr (5, [.ref ah_all, .ref ah_kept, .ref ah_history, .int vh_historyLong, .ref ah_slots, .ref ah_isSaved, .ref ah_words, .int vh_groups, .ref ah_left, .int vh_leftLong, .ref ah_seen, .ref ah_text, .int vh_textLong, .int vh_spot, .ref ah_signs, .ref ah_pauses, .int vh_read])), (ah_all, .inl (g.2.1, 120, .inl vh_all)), (ah_slots, .inl (g.2.1, 240, .inl vh_slots)), (ah_isSaved, .inl (g.2.1, 2, .inl vh_isSaved))]) (bw_pick1 4 [0, 1, 2, 3] rfl rfl (by decide)) ?_
  refine bw_st (st1 := [.int q_13]) rfl ?_
  refine bw_if_ne 10 dX5_save_4 (by decide) (fun c_14 => ?_) (fun c_14 => ?_)
  · have hf := bw_neg c_14 hf
    refine bw_iconst 0 dX5_save_10 (by decide) ?_
    refine bw_istore_n [(2, .int 0), (0, .ref ah), (1, .int p0)] dX5_save_11 rfl (by decide) rfl ?_
    refine bw_lv [1, 2, 0] rfl ?_
    exact s_X5_save_L12 l g ah ah_all ah_kept ah_history ah_slots ah_isSaved ah_words ah_left ah_seen ah_text ah_signs ah_pauses bw_F vh_historyLong vh_groups vh_leftLong vh_textLong vh_spot vh_read vh_all vh_slots vh_isSaved p0 0 _ hf
  · have hf := bw_pos c_14 hf
    refine bw_ldc ct_X5_121 dX5_save_7 ?_
    cases Option.some.inj hf
    exact bw_ret rfl rfl (Nat.le_of_ble_eq_true rfl) (Nat.le_of_ble_eq_true rfl) dX5_save_9 ⟨rfl, rfl⟩
def f_X5_restore_L28 : Nat → (Int32) → (Nat → Int32) → (Nat → Int32) → (Nat → Int32) → (Nat → Int32) → (Int32) → (Int32) → Option (Int32 × (Int32) × (Nat → Int32) × (Nat → Int32))
  | 0, _, _, _, _, _, _, _ => none
  | fu + 1, vh_historyLong, vh_all, vh_history, vh_slots, vh_isSaved, x1, x2 => (if 120 ≤ x2 then (if bw_in 3 120 then some ((vh_all (Int32.toNatClampNeg 3)), vh_historyLong, vh_all, vh_history) else none) else (if bw_in (((120 * x1) + x2)) 240 then (if bw_in x2 120 then (f_X5_restore_L28 fu vh_historyLong ((upd vh_all (Int32.toNatClampNeg x2) ((vh_slots (Int32.toNatClampNeg (((120 * x1) + x2))))))) vh_history vh_slots vh_isSaved x1 ((x2 + 1))) else none) else none))
set_option maxHeartbeats 4000000 in
set_option maxRecDepth 100000 in
theorem s_X5_restore_L28 (l : Launch) (g : bwG) (ah ah_all ah_kept ah_history ah_slots ah_isSaved ah_words ah_left ah_seen ah_text ah_signs ah_pauses : Nat) (fu : Nat) : ∀ (vh_historyLong : Int32) (vh_groups : Int32) (vh_leftLong : Int32) (vh_textLong : Int32) (vh_spot : Int32) (vh_read : Int32) (vh_all : Nat → Int32) (vh_history : Nat → Int32) (vh_slots : Nat → Int32) (vh_isSaved : Nat → Int32) (x1 : Int32) (x2 : Int32) (res : Int32 × (Int32) × (Nat → Int32) × (Nat → Int32)), f_X5_restore_L28 fu vh_historyLong vh_all vh_history vh_slots vh_isSaved x1 x2 = some res → bwR l g cX5_restore 3 RX5 "restore" (some .int) ({ frames := 1, cells := 0, slots := 0, locals := 21 } : Room) bwT (bwZ g (fun r w => r = some (.int res.1) ∧ w = [(ah, .inr (5, [.ref ah_all, .ref ah_kept, .ref ah_history, .int res.2.1, .ref ah_slots, .ref ah_isSaved, .ref ah_words, .int vh_groups, .ref ah_left, .int vh_leftLong, .ref ah_seen, .ref ah_text, .int vh_textLong, .int vh_spot, .ref ah_signs, .ref ah_pauses, .int vh_read])), (ah_all, .inl (g.2.1, 120, .inl res.2.2.1)), (ah_history, .inl (g.2.1, 720, .inl res.2.2.2)), (ah_slots, .inl (g.2.1, 240, .inl vh_slots)), (ah_isSaved, .inl (g.2.1, 2, .inl vh_isSaved))]) 0 0) 28 [(0, .ref ah), (1, .int x1), (2, .int x2)] [] ([(ah, .inr (5, [.ref ah_all, .ref ah_kept, .ref ah_history, .int vh_historyLong, .ref ah_slots, .ref ah_isSaved, .ref ah_words, .int vh_groups, .ref ah_left, .int vh_leftLong, .ref ah_seen, .ref ah_text, .int vh_textLong, .int vh_spot, .ref ah_signs, .ref ah_pauses, .int vh_read])), (ah_all, .inl (g.2.1, 120, .inl vh_all)), (ah_history, .inl (g.2.1, 720, .inl vh_history)), (ah_slots, .inl (g.2.1, 240, .inl vh_slots)), (ah_isSaved, .inl (g.2.1, 2, .inl vh_isSaved))]) 0 0 := by
  induction fu with
  | zero => intro vh_historyLong vh_groups vh_leftLong vh_textLong vh_spot vh_read vh_all vh_history vh_slots vh_isSaved x1 x2 res hf; exact absurd hf (by intro h; cases h)
  | succ fu ih =>
    intro vh_historyLong vh_groups vh_leftLong vh_textLong vh_spot vh_read vh_all vh_history vh_slots vh_isSaved x1 x2 res hf
    rw [f_X5_restore_L28] at hf
    refine bw_iload_n 2 dX5_restore_28 rfl rfl ?_
    refine bw_bipush 120 dX5_restore_29 (by decide) ?_
    refine bw_icmp_ge 57 dX5_restore_31 (by decide) (fun c_10 => ?_) (fun c_10 => ?_)
    · have hf := bw_pos c_10 hf
      refine bw_aload_n 0 dX5_restore_57 rfl rfl ?_
      refine bw_gf bkX5 0 0 (by decide) fl_X5_7 rfl rfl dX5_restore_58 ?_
      refine bw_iconst 3 dX5_restore_61 (by decide) ?_
      obtain ⟨h_11, hf⟩ := bw_chk hf
      refine bw_iald 1 rfl h_11 dX5_restore_62 ?_
      cases Option.some.inj hf
      exact bw_ret rfl rfl (Nat.le_of_ble_eq_true rfl) (Nat.le_of_ble_eq_true rfl) dX5_restore_63 ⟨rfl, rfl⟩
    · have hf := bw_neg c_10 hf
      refine bw_aload_n 0 dX5_restore_34 rfl rfl ?_
      refine bw_gf bkX5 0 0 (by decide) fl_X5_7 rfl rfl dX5_restore_35 ?_
      refine bw_iload_n 2 dX5_restore_38 rfl rfl ?_
      refine bw_aload_n 0 dX5_restore_39 rfl rfl ?_
      refine bw_gf bkX5 0 4 (by decide) fl_X5_19 rfl rfl dX5_restore_40 ?_
      refine bw_bipush 120 dX5_restore_43 (by decide) ?_
      refine bw_iload_n 1 dX5_restore_45 rfl rfl ?_
      refine bw_imul dX5_restore_46 ?_
      refine bw_iload_n 2 dX5_restore_47 rfl rfl ?_
      refine bw_iadd dX5_restore_48 ?_
      obtain ⟨h_12, hf⟩ := bw_chk hf
      refine bw_iald 3 rfl h_12 dX5_restore_49 ?_
      obtain ⟨h_13, hf⟩ := bw_chk hf
      refine bw_iast 1 ([(ah, .inr (5, [.ref ah_all, .ref ah_kept, .ref ah_history, .int vh_historyLong, .ref ah_slots, .ref ah_isSaved, .ref ah_words, .int vh_groups, .ref ah_left, .int vh_leftLong, .ref ah_seen, .ref ah_text, .int vh_textLong, .int vh_spot, .ref ah_signs, .ref ah_pauses, .int vh_read])), (ah_all, .inl (g.2.1, 120, .inl ((upd vh_all (Int32.toNatClampNeg x2) ((vh_slots (Int32.toNatClampNeg (((120 * x1) + x2))))))))), (ah_history, .inl (g.2.1, 720, .inl vh_history)), (ah_slots, .inl (g.2.1, 240, .inl vh_slots)), (ah_isSaved, .inl (g.2.1, 2, .inl vh_isSaved))]) rfl h_13 rfl dX5_restore_50 ?_
      refine bw_iinc 2 (x2 + 1) [(2, .int ((x2 + 1))), (0, .ref ah), (1, .int x1)] dX5_restore_51 rfl rfl (by decide) rfl ?_
      refine bw_goto 28 dX5_restore_54 (by decide) ?_
      refine bw_lv [1, 2, 0] rfl ?_
      exact ih vh_historyLong vh_groups vh_leftLong vh_textLong vh_spot vh_read ((upd vh_all (Int32.toNatClampNeg x2) ((vh_slots (Int32.toNatClampNeg (((120 * x1) + x2))))))) vh_history vh_slots vh_isSaved x1 ((x2 + 1)) _ hf
theorem ar_X5_restore : yX5_restore.cls ≠ "java/lang/invoke/MethodHandle" ∧ yX5_restore.cls ≠ "java/lang/invoke/VarHandle" ∧ (parseMethodDescriptor yX5_restore.desc).map (fun d => d.parameters.length) = some 1 := ⟨by decide, by decide, by decide +kernel⟩
def f_X5_restore (vh_historyLong : Int32) (vh_all : Nat → Int32) (vh_history : Nat → Int32) (vh_slots : Nat → Int32) (vh_isSaved : Nat → Int32) (p0 : Int32) : Option (Int32 × (Int32) × (Nat → Int32) × (Nat → Int32)) := ((f_X5_isSlot p0).bind fun q_14 => (if q_14 = 0 then some ((-1000002), vh_historyLong, vh_all, vh_history) else (if bw_in p0 2 then (if (vh_isSaved (Int32.toNatClampNeg p0)) = 0 then some ((-1000005), vh_historyLong, vh_all, vh_history) else ((f_X5_changes vh_historyLong vh_all vh_history).bind fun q_18 => (f_X5_restore_L28 bw_F q_18.1 vh_all q_18.2 vh_slots vh_isSaved p0 0))) else none)))
set_option maxHeartbeats 4000000 in
set_option maxRecDepth 100000 in
theorem s_X5_restore (l : Launch) (g : bwG) (ah ah_all ah_kept ah_history ah_slots ah_isSaved ah_words ah_left ah_seen ah_text ah_signs ah_pauses : Nat) (vh_historyLong : Int32) (vh_groups : Int32) (vh_leftLong : Int32) (vh_textLong : Int32) (vh_spot : Int32) (vh_read : Int32) (vh_all : Nat → Int32) (vh_history : Nat → Int32) (vh_slots : Nat → Int32) (vh_isSaved : Nat → Int32) (p0 : Int32) (res : Int32 × (Int32) × (Nat → Int32) × (Nat → Int32)) (hf : f_X5_restore vh_historyLong vh_all vh_history vh_slots vh_isSaved p0 = some res) : bwS l g yX5_restore cX5_restore 3 (some .int) ({ frames := 1, cells := 0, slots := 0, locals := 21 } : Room) [.ref ah, .int p0] ([(ah, .inr (5, [.ref ah_all, .ref ah_kept, .ref ah_history, .int vh_historyLong, .ref ah_slots, .ref ah_isSaved, .ref ah_words, .int vh_groups, .ref ah_left, .int vh_leftLong, .ref ah_seen, .ref ah_text, .int vh_textLong, .int vh_spot, .ref ah_signs, .ref ah_pauses, .int vh_read])), (ah_all, .inl (g.2.1, 120, .inl vh_all)), (ah_history, .inl (g.2.1, 720, .inl vh_history)), (ah_slots, .inl (g.2.1, 240, .inl vh_slots)), (ah_isSaved, .inl (g.2.1, 2, .inl vh_isSaved))]) (fun r w => r = some (.int res.1) ∧ w = [(ah, .inr (5, [.ref ah_all, .ref ah_kept, .ref ah_history, .int res.2.1, .ref ah_slots, .ref ah_isSaved, .ref ah_words, .int vh_groups, .ref ah_left, .int vh_leftLong, .ref ah_seen, .ref ah_text, .int vh_textLong, .int vh_spot, .ref ah_signs, .ref ah_pauses, .int vh_read])), (ah_all, .inl (g.2.1, 120, .inl res.2.2.1)), (ah_history, .inl (g.2.1, 720, .inl res.2.2.2)), (ah_slots, .inl (g.2.1, 240, .inl vh_slots)), (ah_isSaved, .inl (g.2.1, 2, .inl vh_isSaved))]) := by
  refine bwS_of (by decide) (Nat.le_of_ble_eq_true rfl) ?_
  unfold f_X5_restore at hf
  show bwR l g cX5_restore 3 RX5 "restore" (some .int) ({ frames := 1, cells := 0, slots := 0, locals := 21 } : Room) bwT (bwZ g (fun r w => r = some (.int res.1) ∧ w = [(ah, .inr (5, [.ref ah_all, .ref ah_kept, .ref ah_history, .int res.2.1, .ref ah_slots, .ref ah_isSaved, .ref ah_words, .int vh_groups, .ref ah_left, .int vh_leftLong, .ref ah_seen, .ref ah_text, .int vh_textLong, .int vh_spot, .ref ah_signs, .ref ah_pauses, .int vh_read])), (ah_all, .inl (g.2.1, 120, .inl res.2.2.1)), (ah_history, .inl (g.2.1, 720, .inl res.2.2.2)), (ah_slots, .inl (g.2.1, 240, .inl vh_slots)), (ah_isSaved, .inl (g.2.1, 2, .inl vh_isSaved))]) 0 0) 0 [(0, .ref ah), (1, .int p0)] [] ([(ah, .inr (5, [.ref ah_all, .ref ah_kept, .ref ah_history, .int vh_historyLong, .ref ah_slots, .ref ah_isSaved, .ref ah_words, .int vh_groups, .ref ah_left, .int vh_leftLong, .ref ah_seen, .ref ah_text, .int vh_textLong, .int vh_spot, .ref ah_signs, .ref ah_pauses, .int vh_read])), (ah_all, .inl (g.2.1, 120, .inl vh_all)), (ah_history, .inl (g.2.1, 720, .inl vh_history)), (ah_slots, .inl (g.2.1, 240, .inl vh_slots)), (ah_isSaved, .inl (g.2.1, 2, .inl vh_isSaved))]) 0 0
  refine bw_iload_n 1 dX5_restore_0 rfl rfl ?_
  obtain ⟨q_14, hc_14, hf⟩ := bw_bind hf
  refine bw_callS [.int p0] [] [(ah, .inr (5, [.ref ah_all, .ref ah_kept, .ref ah_history, .int vh_historyLong, .ref ah_slots, .ref ah_isSaved, .ref ah_words, .int vh_groups, .ref ah_left, .int vh_leftLong, .ref ah_seen, .ref ah_text, .int vh_textLong, .int vh_spot, .ref ah_signs, .ref ah_pauses, .int vh_read])), (ah_all, .inl (g.2.1, 120, .inl vh_all)), (ah_history, .inl (g.2.1, 720, .inl vh_history)), (ah_slots, .inl (g.2.1, 240, .inl vh_slots)), (ah_isSaved, .inl (g.2.1, 2, .inl vh_isSaved))] (s_X5_isSlot l g   p0 _ hc_14) rfl co_X5_isSlot ini_X5 ml_X5_196 st_X5_isSlot ar_X5_isSlot ⟨Nat.le_of_ble_eq_true rfl, Nat.le_of_ble_eq_true rfl⟩ ⟨Nat.le_of_ble_eq_true rfl, Nat.le_of_ble_eq_true rfl⟩ (bw_pick1 5 [0, 1, 2, 3, 4] rfl rfl (by decide)) (Nat.le_of_ble_eq_true rfl) dX5_restore_1 (fun r w1 hq => ?_)
  obtain ⟨rfl, rfl⟩ := hq
  refine bw_perm (ws1 := [(ah, .inr (5, [.ref ah_all, .ref ah_kept, .ref ah_history, .int vh_historyLong, .ref ah_slots, .ref ah_isSaved, .ref ah_words, .int vh_groups, .ref ah_left, .int vh_leftLong, .ref ah_seen, .ref ah_text, .int vh_textLong, .int vh_spot, .ref ah_signs, .ref ah_pauses, .int vh_read])), (ah_all, .inl (g.2.1, 120, .inl vh_all)), (ah_history, .inl (g.2.1, 720, .inl vh_history)), (ah_slots, .inl (g.2.1, 240, .inl vh_slots)), (ah_isSaved, .inl (g.2.1, 2, .inl vh_isSaved))]) (bw_pick1 5 [0, 1, 2, 3, 4] rfl rfl (by decide)) ?_
  refine bw_st (st1 := [.int q_14]) rfl ?_
  refine bw_if_ne 10 dX5_restore_4 (by decide) (fun c_15 => ?_) (fun c_15 => ?_)
  · have hf := bw_neg c_15 hf
    refine bw_aload_n 0 dX5_restore_10 rfl rfl ?_
    refine bw_gf bkX5 0 5 (by decide) fl_X5_22 rfl rfl dX5_restore_11 ?_
    refine bw_iload_n 1 dX5_restore_14 rfl rfl ?_
    obtain ⟨h_16, hf⟩ := bw_chk hf
    refine bw_iald 4 rfl h_16 dX5_restore_15 ?_
    refine bw_if_ne 22 dX5_restore_16 (by decide) (fun c_17 => ?_) (fun c_17 => ?_)
    · have hf := bw_neg c_17 hf
      refine bw_aload_n 0 dX5_restore_22 rfl rfl ?_
      obtain ⟨q_18, hc_18, hf⟩ := bw_bind hf
      refine bw_callV [] [] [(ah_slots, .inl (g.2.1, 240, .inl vh_slots)), (ah_isSaved, .inl (g.2.1, 2, .inl vh_isSaved))] 0 5 (s_X5_changes l g ah ah_all ah_kept ah_history ah_slots ah_isSaved ah_words ah_left ah_seen ah_text ah_signs ah_pauses vh_historyLong vh_groups vh_leftLong vh_textLong vh_spot vh_read vh_all vh_history  _ hc_18) rfl co_X5_changes ini_X5 ml_X5_122 im_X5_changes se_X5_changes ar_X5_changes ⟨Nat.le_of_ble_eq_true rfl, Nat.le_of_ble_eq_true rfl⟩ ⟨Nat.le_of_ble_eq_true rfl, Nat.le_of_ble_eq_true rfl⟩ rfl rfl (bw_pick1 5 [0, 1, 2, 3, 4] rfl rfl (by decide)) (Nat.le_of_ble_eq_true rfl) dX5_restore_23 (fun r w1 hq => ?_)
      obtain ⟨rfl, rfl⟩ := hq
      refine bw_perm (ws1 := [(ah, .inr (5, [.ref ah_all, .ref ah_kept, .ref ah_history, .int q_18.1, .ref ah_slots, .ref ah_isSaved, .ref ah_words, .int vh_groups, .ref ah_left, .int vh_leftLong, .ref ah_seen, .ref ah_text, .int vh_textLong, .int vh_spot, .ref ah_signs, .ref ah_pauses, .int vh_read])), (ah_all, .inl (g.2.1, 120, .inl vh_all)), (ah_history, .inl (g.2.1, 720, .inl q_18.2)), (ah_slots, .inl (g.2.1, 240, .inl vh_slots)), (ah_isSaved, .inl (g.2.1, 2, .inl vh_isSaved))]) (bw_pick1 5 [2, 3, 4, 0, 1] rfl rfl (by decide)) ?_
      refine bw_st (st1 := []) rfl ?_
      refine bw_iconst 0 dX5_restore_26 (by decide) ?_
      refine bw_istore_n [(2, .int 0), (0, .ref ah), (1, .int p0)] dX5_restore_27 rfl (by decide) rfl ?_
      refine bw_lv [1, 2, 0] rfl ?_
      exact s_X5_restore_L28 l g ah ah_all ah_kept ah_history ah_slots ah_isSaved ah_words ah_left ah_seen ah_text ah_signs ah_pauses bw_F q_18.1 vh_groups vh_leftLong vh_textLong vh_spot vh_read vh_all q_18.2 vh_slots vh_isSaved p0 0 _ hf
    · have hf := bw_pos c_17 hf
      refine bw_ldc ct_X5_136 dX5_restore_19 ?_
      cases Option.some.inj hf
      exact bw_ret rfl rfl (Nat.le_of_ble_eq_true rfl) (Nat.le_of_ble_eq_true rfl) dX5_restore_21 ⟨rfl, rfl⟩
  · have hf := bw_pos c_15 hf
    refine bw_ldc ct_X5_121 dX5_restore_7 ?_
    cases Option.some.inj hf
    exact bw_ret rfl rfl (Nat.le_of_ble_eq_true rfl) (Nat.le_of_ble_eq_true rfl) dX5_restore_9 ⟨rfl, rfl⟩
