theorem ar_X5_in : yX5_in.cls ≠ "java/lang/invoke/MethodHandle" ∧ yX5_in.cls ≠ "java/lang/invoke/VarHandle" ∧ (parseMethodDescriptor yX5_in.desc).map (fun d => d.parameters.length) = some 3 := ⟨by decide, by decide, by decide +kernel⟩
def f_X5_in  (p0 : Int64) (p1 : Int64) (p2 : Int64) : Option (Int32) := (if (lg_cmp p0 p1) < 0 then some 0 else (if 0 < (lg_cmp p0 p2) then some 0 else some 1))
set_option maxHeartbeats 4000000 in
set_option maxRecDepth 100000 in
theorem s_X5_in (l : Launch) (g : bwG)   (p0 : Int64) (p1 : Int64) (p2 : Int64) (res : Int32) (hf : f_X5_in  p0 p1 p2 = some res) : bwS l g yX5_in cX5_in 6 (some .boolean) ({ frames := 0, cells := 0, slots := 0, locals := 0 } : Room) [.long p0, .long p1, .long p2] ([]) (fun r w => r = some (.int res) ∧ w = []) := by
  refine bwS_of (by decide) (Nat.le_of_ble_eq_true rfl) ?_
  unfold f_X5_in at hf
  show bwR l g cX5_in 6 RX5 "in" (some .boolean) ({ frames := 0, cells := 0, slots := 0, locals := 0 } : Room) bwT (bwZ g (fun r w => r = some (.int res) ∧ w = []) 0 0) 0 [(0, .long p0), (2, .long p1), (4, .long p2)] [] ([]) 0 0
  refine bw_lload_n 0 dX5_in_0 rfl rfl ?_
  refine bw_lload_n 1 dX5_in_1 rfl rfl ?_
  refine bw_lcmp dX5_in_2 ?_
  refine bw_if_lt 17 dX5_in_3 (by decide) (fun c_3 => ?_) (fun c_3 => ?_)
  · have hf := bw_pos c_3 hf
    refine bw_iconst 0 dX5_in_17 (by decide) ?_
    cases Option.some.inj hf
    exact bw_ret rfl rfl (Nat.le_of_ble_eq_true rfl) (Nat.le_of_ble_eq_true rfl) dX5_in_18 ⟨rfl, rfl⟩
  · have hf := bw_neg c_3 hf
    refine bw_lload_n 0 dX5_in_6 rfl rfl ?_
    refine bw_lload 2 dX5_in_7 rfl ?_
    refine bw_lcmp dX5_in_9 ?_
    refine bw_if_gt 17 dX5_in_10 (by decide) (fun c_4 => ?_) (fun c_4 => ?_)
    · have hf := bw_pos c_4 hf
      refine bw_iconst 0 dX5_in_17 (by decide) ?_
      cases Option.some.inj hf
      exact bw_ret rfl rfl (Nat.le_of_ble_eq_true rfl) (Nat.le_of_ble_eq_true rfl) dX5_in_18 ⟨rfl, rfl⟩
    · have hf := bw_neg c_4 hf
      refine bw_iconst 1 dX5_in_13 (by decide) ?_
      refine bw_goto 18 dX5_in_14 (by decide) ?_
      cases Option.some.inj hf
      exact bw_ret rfl rfl (Nat.le_of_ble_eq_true rfl) (Nat.le_of_ble_eq_true rfl) dX5_in_18 ⟨rfl, rfl⟩
def f_X5_changes_L51 : Nat → (Int32) → (Nat → Int32) → (Nat → Int32) → (Int32) → Option ((Int32) × (Nat → Int32))
  | 0, _, _, _, _ => none
  | fu + 1, vh_historyLong, vh_all, vh_history, x1 => (if 120 ≤ x1 then some ((vh_historyLong + 1), vh_history) else (if bw_in x1 120 then (if bw_in (((120 * vh_historyLong) + x1)) 720 then (f_X5_changes_L51 fu vh_historyLong vh_all ((upd vh_history (Int32.toNatClampNeg (((120 * vh_historyLong) + x1))) ((vh_all (Int32.toNatClampNeg x1))))) ((x1 + 1))) else none) else none))
set_option maxHeartbeats 4000000 in
set_option maxRecDepth 100000 in
theorem s_X5_changes_L51 (l : Launch) (g : bwG) (ah ah_all ah_kept ah_history ah_slots ah_isSaved ah_words ah_left ah_seen ah_text ah_signs ah_pauses : Nat) (fu : Nat) : ∀ (vh_historyLong : Int32) (vh_groups : Int32) (vh_leftLong : Int32) (vh_textLong : Int32) (vh_spot : Int32) (vh_read : Int32) (vh_all : Nat → Int32) (vh_history : Nat → Int32) (x1 : Int32) (res : (Int32) × (Nat → Int32)), f_X5_changes_L51 fu vh_historyLong vh_all vh_history x1 = some res → bwR l g cX5_changes 2 RX5 "changes" none ({ frames := 0, cells := 0, slots := 0, locals := 0 } : Room) bwT (bwZ g (fun r w => r = none ∧ w = [(ah, .inr (5, [.ref ah_all, .ref ah_kept, .ref ah_history, .int res.1, .ref ah_slots, .ref ah_isSaved, .ref ah_words, .int vh_groups, .ref ah_left, .int vh_leftLong, .ref ah_seen, .ref ah_text, .int vh_textLong, .int vh_spot, .ref ah_signs, .ref ah_pauses, .int vh_read])), (ah_all, .inl (g.2.1, 120, .inl vh_all)), (ah_history, .inl (g.2.1, 720, .inl res.2))]) 0 0) 51 [(0, .ref ah), (1, .int x1)] [] ([(ah, .inr (5, [.ref ah_all, .ref ah_kept, .ref ah_history, .int vh_historyLong, .ref ah_slots, .ref ah_isSaved, .ref ah_words, .int vh_groups, .ref ah_left, .int vh_leftLong, .ref ah_seen, .ref ah_text, .int vh_textLong, .int vh_spot, .ref ah_signs, .ref ah_pauses, .int vh_read])), (ah_all, .inl (g.2.1, 120, .inl vh_all)), (ah_history, .inl (g.2.1, 720, .inl vh_history))]) 0 0 := by
  induction fu with
  | zero => intro vh_historyLong vh_groups vh_leftLong vh_textLong vh_spot vh_read vh_all vh_history x1 res hf; exact absurd hf (by intro h; cases h)
  | succ fu ih =>
    intro vh_historyLong vh_groups vh_leftLong vh_textLong vh_spot vh_read vh_all vh_history x1 res hf
    rw [f_X5_changes_L51] at hf
    refine bw_iload_n 1 dX5_changes_51 rfl rfl ?_
    refine bw_bipush 120 dX5_changes_52 (by decide) ?_
    refine bw_icmp_ge 83 dX5_changes_54 (by decide) (fun c_8 => ?_) (fun c_8 => ?_)
    · have hf := bw_pos c_8 hf
      refine bw_aload_n 0 dX5_changes_83 rfl rfl ?_
      refine bw_dup dX5_changes_84 rfl ?_
      refine bw_gf bkX5 0 3 (by decide) fl_X5_43 rfl rfl dX5_changes_85 ?_
      refine bw_iconst 1 dX5_changes_88 (by decide) ?_
      refine bw_iadd dX5_changes_89 ?_
      refine bw_pf bkX5 0 3 ([(ah, .inr (5, [.ref ah_all, .ref ah_kept, .ref ah_history, .int ((vh_historyLong + 1)), .ref ah_slots, .ref ah_isSaved, .ref ah_words, .int vh_groups, .ref ah_left, .int vh_leftLong, .ref ah_seen, .ref ah_text, .int vh_textLong, .int vh_spot, .ref ah_signs, .ref ah_pauses, .int vh_read])), (ah_all, .inl (g.2.1, 120, .inl vh_all)), (ah_history, .inl (g.2.1, 720, .inl vh_history))]) (by decide) fl_X5_43 rfl rfl rfl rfl rfl (Nat.le_of_ble_eq_true rfl) rfl dX5_changes_90 ?_
      cases Option.some.inj hf
      exact bw_vret rfl (Nat.le_of_ble_eq_true rfl) (Nat.le_of_ble_eq_true rfl) dX5_changes_93 ⟨rfl, rfl⟩
    · have hf := bw_neg c_8 hf
      refine bw_aload_n 0 dX5_changes_57 rfl rfl ?_
      refine bw_gf bkX5 0 2 (by decide) fl_X5_16 rfl rfl dX5_changes_58 ?_
      refine bw_bipush 120 dX5_changes_61 (by decide) ?_
      refine bw_aload_n 0 dX5_changes_63 rfl rfl ?_
      refine bw_gf bkX5 0 3 (by decide) fl_X5_43 rfl rfl dX5_changes_64 ?_
      refine bw_imul dX5_changes_67 ?_
      refine bw_iload_n 1 dX5_changes_68 rfl rfl ?_
      refine bw_iadd dX5_changes_69 ?_
      refine bw_aload_n 0 dX5_changes_70 rfl rfl ?_
      refine bw_gf bkX5 0 0 (by decide) fl_X5_7 rfl rfl dX5_changes_71 ?_
      refine bw_iload_n 1 dX5_changes_74 rfl rfl ?_
      obtain ⟨h_9, hf⟩ := bw_chk hf
      refine bw_iald 1 rfl h_9 dX5_changes_75 ?_
      obtain ⟨h_10, hf⟩ := bw_chk hf
      refine bw_iast 2 ([(ah, .inr (5, [.ref ah_all, .ref ah_kept, .ref ah_history, .int vh_historyLong, .ref ah_slots, .ref ah_isSaved, .ref ah_words, .int vh_groups, .ref ah_left, .int vh_leftLong, .ref ah_seen, .ref ah_text, .int vh_textLong, .int vh_spot, .ref ah_signs, .ref ah_pauses, .int vh_read])), (ah_all, .inl (g.2.1, 120, .inl vh_all)), (ah_history, .inl (g.2.1, 720, .inl ((upd vh_history (Int32.toNatClampNeg (((120 * vh_historyLong) + x1))) ((vh_all (Int32.toNatClampNeg x1)))))))]) rfl h_10 rfl dX5_changes_76 ?_
      refine bw_iinc 1 (x1 + 1) [(1, .int ((x1 + 1))), (0, .ref ah)] dX5_changes_77 rfl rfl (by decide) rfl ?_
      refine bw_goto 51 dX5_changes_80 (by decide) ?_
      refine bw_lv [1, 0] rfl ?_
      exact ih vh_historyLong vh_groups vh_leftLong vh_textLong vh_spot vh_read vh_all ((upd vh_history (Int32.toNatClampNeg (((120 * vh_historyLong) + x1))) ((vh_all (Int32.toNatClampNeg x1))))) ((x1 + 1)) _ hf
def f_X5_changes_L11 : Nat → (Int32) → (Nat → Int32) → (Nat → Int32) → (Int32) → Option ((Int32) × (Nat → Int32))
  | 0, _, _, _, _ => none
  | fu + 1, vh_historyLong, vh_all, vh_history, x1 => (if 600 ≤ x1 then (f_X5_changes_L51 bw_F ((vh_historyLong - 1)) vh_all vh_history 0) else (if bw_in ((x1 + 120)) 720 then (if bw_in x1 720 then (f_X5_changes_L11 fu vh_historyLong vh_all ((upd vh_history (Int32.toNatClampNeg x1) ((vh_history (Int32.toNatClampNeg ((x1 + 120))))))) ((x1 + 1))) else none) else none))
set_option maxHeartbeats 4000000 in
set_option maxRecDepth 100000 in
theorem s_X5_changes_L11 (l : Launch) (g : bwG) (ah ah_all ah_kept ah_history ah_slots ah_isSaved ah_words ah_left ah_seen ah_text ah_signs ah_pauses : Nat) (fu : Nat) : ∀ (vh_historyLong : Int32) (vh_groups : Int32) (vh_leftLong : Int32) (vh_textLong : Int32) (vh_spot : Int32) (vh_read : Int32) (vh_all : Nat → Int32) (vh_history : Nat → Int32) (x1 : Int32) (res : (Int32) × (Nat → Int32)), f_X5_changes_L11 fu vh_historyLong vh_all vh_history x1 = some res → bwR l g cX5_changes 2 RX5 "changes" none ({ frames := 0, cells := 0, slots := 0, locals := 0 } : Room) bwT (bwZ g (fun r w => r = none ∧ w = [(ah, .inr (5, [.ref ah_all, .ref ah_kept, .ref ah_history, .int res.1, .ref ah_slots, .ref ah_isSaved, .ref ah_words, .int vh_groups, .ref ah_left, .int vh_leftLong, .ref ah_seen, .ref ah_text, .int vh_textLong, .int vh_spot, .ref ah_signs, .ref ah_pauses, .int vh_read])), (ah_all, .inl (g.2.1, 120, .inl vh_all)), (ah_history, .inl (g.2.1, 720, .inl res.2))]) 0 0) 11 [(0, .ref ah), (1, .int x1)] [] ([(ah, .inr (5, [.ref ah_all, .ref ah_kept, .ref ah_history, .int vh_historyLong, .ref ah_slots, .ref ah_isSaved, .ref ah_words, .int vh_groups, .ref ah_left, .int vh_leftLong, .ref ah_seen, .ref ah_text, .int vh_textLong, .int vh_spot, .ref ah_signs, .ref ah_pauses, .int vh_read])), (ah_all, .inl (g.2.1, 120, .inl vh_all)), (ah_history, .inl (g.2.1, 720, .inl vh_history))]) 0 0 := by
  induction fu with
  | zero => intro vh_historyLong vh_groups vh_leftLong vh_textLong vh_spot vh_read vh_all vh_history x1 res hf; exact absurd hf (by intro h; cases h)
  | succ fu ih =>
    intro vh_historyLong vh_groups vh_leftLong vh_textLong vh_spot vh_read vh_all vh_history x1 res hf
    rw [f_X5_changes_L11] at hf
    refine bw_iload_n 1 dX5_changes_11 rfl rfl ?_
    refine bw_sipush 600 dX5_changes_12 (by decide) ?_
    refine bw_icmp_ge 39 dX5_changes_15 (by decide) (fun c_11 => ?_) (fun c_11 => ?_)
    · have hf := bw_pos c_11 hf
      refine bw_aload_n 0 dX5_changes_39 rfl rfl ?_
      refine bw_dup dX5_changes_40 rfl ?_
      refine bw_gf bkX5 0 3 (by decide) fl_X5_43 rfl rfl dX5_changes_41 ?_
      refine bw_iconst 1 dX5_changes_44 (by decide) ?_
      refine bw_isub dX5_changes_45 ?_
      refine bw_pf bkX5 0 3 ([(ah, .inr (5, [.ref ah_all, .ref ah_kept, .ref ah_history, .int ((vh_historyLong - 1)), .ref ah_slots, .ref ah_isSaved, .ref ah_words, .int vh_groups, .ref ah_left, .int vh_leftLong, .ref ah_seen, .ref ah_text, .int vh_textLong, .int vh_spot, .ref ah_signs, .ref ah_pauses, .int vh_read])), (ah_all, .inl (g.2.1, 120, .inl vh_all)), (ah_history, .inl (g.2.1, 720, .inl vh_history))]) (by decide) fl_X5_43 rfl rfl rfl rfl rfl (Nat.le_of_ble_eq_true rfl) rfl dX5_changes_46 ?_
      refine bw_iconst 0 dX5_changes_49 (by decide) ?_
      refine bw_istore_n [(1, .int 0), (0, .ref ah)] dX5_changes_50 rfl (by decide) rfl ?_
      refine bw_lv [1, 0] rfl ?_
      exact s_X5_changes_L51 l g ah ah_all ah_kept ah_history ah_slots ah_isSaved ah_words ah_left ah_seen ah_text ah_signs ah_pauses bw_F ((vh_historyLong - 1)) vh_groups vh_leftLong vh_textLong vh_spot vh_read vh_all vh_history 0 _ hf
    · have hf := bw_neg c_11 hf
      refine bw_aload_n 0 dX5_changes_18 rfl rfl ?_
      refine bw_gf bkX5 0 2 (by decide) fl_X5_16 rfl rfl dX5_changes_19 ?_
      refine bw_iload_n 1 dX5_changes_22 rfl rfl ?_
      refine bw_aload_n 0 dX5_changes_23 rfl rfl ?_
      refine bw_gf bkX5 0 2 (by decide) fl_X5_16 rfl rfl dX5_changes_24 ?_
      refine bw_iload_n 1 dX5_changes_27 rfl rfl ?_
      refine bw_bipush 120 dX5_changes_28 (by decide) ?_
      refine bw_iadd dX5_changes_30 ?_
      obtain ⟨h_12, hf⟩ := bw_chk hf
      refine bw_iald 2 rfl h_12 dX5_changes_31 ?_
      obtain ⟨h_13, hf⟩ := bw_chk hf
      refine bw_iast 2 ([(ah, .inr (5, [.ref ah_all, .ref ah_kept, .ref ah_history, .int vh_historyLong, .ref ah_slots, .ref ah_isSaved, .ref ah_words, .int vh_groups, .ref ah_left, .int vh_leftLong, .ref ah_seen, .ref ah_text, .int vh_textLong, .int vh_spot, .ref ah_signs, .ref ah_pauses, .int vh_read])), (ah_all, .inl (g.2.1, 120, .inl vh_all)), (ah_history, .inl (g.2.1, 720, .inl ((upd vh_history (Int32.toNatClampNeg x1) ((vh_history (Int32.toNatClampNeg ((x1 + 120)))))))))]) rfl h_13 rfl dX5_changes_32 ?_
      refine bw_iinc 1 (x1 + 1) [(1, .int ((x1 + 1))), (0, .ref ah)] dX5_changes_33 rfl rfl (by decide) rfl ?_
      refine bw_goto 11 dX5_changes_36 (by decide) ?_
      refine bw_lv [1, 0] rfl ?_
      exact ih vh_historyLong vh_groups vh_leftLong vh_textLong vh_spot vh_read vh_all ((upd vh_history (Int32.toNatClampNeg x1) ((vh_history (Int32.toNatClampNeg ((x1 + 120))))))) ((x1 + 1)) _ hf
theorem ar_X5_changes : yX5_changes.cls ≠ "java/lang/invoke/MethodHandle" ∧ yX5_changes.cls ≠ "java/lang/invoke/VarHandle" ∧ (parseMethodDescriptor yX5_changes.desc).map (fun d => d.parameters.length) = some 0 := ⟨by decide, by decide, by decide +kernel⟩
def f_X5_changes (vh_historyLong : Int32) (vh_all : Nat → Int32) (vh_history : Nat → Int32)  : Option ((Int32) × (Nat → Int32)) := (if vh_historyLong = 6 then (f_X5_changes_L11 bw_F vh_historyLong vh_all vh_history 0) else (f_X5_changes_L51 bw_F vh_historyLong vh_all vh_history 0))
set_option maxHeartbeats 4000000 in
set_option maxRecDepth 100000 in
theorem s_X5_changes (l : Launch) (g : bwG) (ah ah_all ah_kept ah_history ah_slots ah_isSaved ah_words ah_left ah_seen ah_text ah_signs ah_pauses : Nat) (vh_historyLong : Int32) (vh_groups : Int32) (vh_leftLong : Int32) (vh_textLong : Int32) (vh_spot : Int32) (vh_read : Int32) (vh_all : Nat → Int32) (vh_history : Nat → Int32)  (res : (Int32) × (Nat → Int32)) (hf : f_X5_changes vh_historyLong vh_all vh_history  = some res) : bwS l g yX5_changes cX5_changes 2 none ({ frames := 0, cells := 0, slots := 0, locals := 0 } : Room) [.ref ah] ([(ah, .inr (5, [.ref ah_all, .ref ah_kept, .ref ah_history, .int vh_historyLong, .ref ah_slots, .ref ah_isSaved, .ref ah_words, .int vh_groups, .ref ah_left, .int vh_leftLong, .ref ah_seen, .ref ah_text, .int vh_textLong, .int vh_spot, .ref ah_signs, .ref ah_pauses, .int vh_read])), (ah_all, .inl (g.2.1, 120, .inl vh_all)), (ah_history, .inl (g.2.1, 720, .inl vh_history))]) (fun r w => r = none ∧ w = [(ah, .inr (5, [.ref ah_all, .ref ah_kept, .ref ah_history, .int res.1, .ref ah_slots, .ref ah_isSaved, .ref ah_words, .int vh_groups, .ref ah_left, .int vh_leftLong, .ref ah_seen, .ref ah_text, .int vh_textLong, .int vh_spot, .ref ah_signs, .ref ah_pauses, .int vh_read])), (ah_all, .inl (g.2.1, 120, .inl vh_all)), (ah_history, .inl (g.2.1, 720, .inl res.2))]) := by
  refine bwS_of (by decide) (Nat.le_of_ble_eq_true rfl) ?_
  unfold f_X5_changes at hf
  show bwR l g cX5_changes 2 RX5 "changes" none ({ frames := 0, cells := 0, slots := 0, locals := 0 } : Room) bwT (bwZ g (fun r w => r = none ∧ w = [(ah, .inr (5, [.ref ah_all, .ref ah_kept, .ref ah_history, .int res.1, .ref ah_slots, .ref ah_isSaved, .ref ah_words, .int vh_groups, .ref ah_left, .int vh_leftLong, .ref ah_seen, .ref ah_text, .int vh_textLong, .int vh_spot, .ref ah_signs, .ref ah_pauses, .int vh_read])), (ah_all, .inl (g.2.1, 120, .inl vh_all)), (ah_history, .inl (g.2.1, 720, .inl res.2))]) 0 0) 0 [(0, .ref ah)] [] ([(ah, .inr (5, [.ref ah_all, .ref ah_kept, .ref ah_history, .int vh_historyLong, .ref ah_slots, .ref ah_isSaved, .ref ah_words, .int vh_groups, .ref ah_left, .int vh_leftLong, .ref ah_seen, .ref ah_text, .int vh_textLong, .int vh_spot, .ref ah_signs, .ref ah_pauses, .int vh_read])), (ah_all, .inl (g.2.1, 120, .inl vh_all)), (ah_history, .inl (g.2.1, 720, .inl vh_history))]) 0 0
  refine bw_aload_n 0 dX5_changes_0 rfl rfl ?_
  refine bw_gf bkX5 0 3 (by decide) fl_X5_43 rfl rfl dX5_changes_1 ?_
  refine bw_bipush 6 dX5_changes_4 (by decide) ?_
  refine bw_icmp_ne 49 dX5_changes_6 (by decide) (fun c_14 => ?_) (fun c_14 => ?_)
  · have hf := bw_neg c_14 hf
    refine bw_iconst 0 dX5_changes_49 (by decide) ?_
    refine bw_istore_n [(1, .int 0), (0, .ref ah)] dX5_changes_50 rfl (by decide) rfl ?_
    refine bw_lv [1, 0] rfl ?_
    exact s_X5_changes_L51 l g ah ah_all ah_kept ah_history ah_slots ah_isSaved ah_words ah_left ah_seen ah_text ah_signs ah_pauses bw_F vh_historyLong vh_groups vh_leftLong vh_textLong vh_spot vh_read vh_all vh_history 0 _ hf
  · have hf := bw_pos c_14 hf
    refine bw_iconst 0 dX5_changes_9 (by decide) ?_
    refine bw_istore_n [(1, .int 0), (0, .ref ah)] dX5_changes_10 rfl (by decide) rfl ?_
    refine bw_lv [1, 0] rfl ?_
    exact s_X5_changes_L11 l g ah ah_all ah_kept ah_history ah_slots ah_isSaved ah_words ah_left ah_seen ah_text ah_signs ah_pauses bw_F vh_historyLong vh_groups vh_leftLong vh_textLong vh_spot vh_read vh_all vh_history 0 _ hf
def f_X5_keeps_L2 : Nat → (Nat → Int32) → (Nat → Int32) → (Int32) → Option ((Nat → Int32))
  | 0, _, _, _ => none
  | fu + 1, vh_all, vh_kept, x1 => (if 120 ≤ x1 then some vh_kept else (if bw_in x1 120 then (if bw_in x1 120 then (f_X5_keeps_L2 fu vh_all ((upd vh_kept (Int32.toNatClampNeg x1) ((vh_all (Int32.toNatClampNeg x1))))) ((x1 + 1))) else none) else none))
set_option maxHeartbeats 4000000 in
set_option maxRecDepth 100000 in
theorem s_X5_keeps_L2 (l : Launch) (g : bwG) (ah ah_all ah_kept ah_history ah_slots ah_isSaved ah_words ah_left ah_seen ah_text ah_signs ah_pauses : Nat) (fu : Nat) : ∀ (vh_historyLong : Int32) (vh_groups : Int32) (vh_leftLong : Int32) (vh_textLong : Int32) (vh_spot : Int32) (vh_read : Int32) (vh_all : Nat → Int32) (vh_kept : Nat → Int32) (x1 : Int32) (res : (Nat → Int32)), f_X5_keeps_L2 fu vh_all vh_kept x1 = some res → bwR l g cX5_keeps 2 RX5 "keeps" none ({ frames := 0, cells := 0, slots := 0, locals := 0 } : Room) bwT (bwZ g (fun r w => r = none ∧ w = [(ah, .inr (5, [.ref ah_all, .ref ah_kept, .ref ah_history, .int vh_historyLong, .ref ah_slots, .ref ah_isSaved, .ref ah_words, .int vh_groups, .ref ah_left, .int vh_leftLong, .ref ah_seen, .ref ah_text, .int vh_textLong, .int vh_spot, .ref ah_signs, .ref ah_pauses, .int vh_read])), (ah_all, .inl (g.2.1, 120, .inl vh_all)), (ah_kept, .inl (g.2.1, 120, .inl res))]) 0 0) 2 [(0, .ref ah), (1, .int x1)] [] ([(ah, .inr (5, [.ref ah_all, .ref ah_kept, .ref ah_history, .int vh_historyLong, .ref ah_slots, .ref ah_isSaved, .ref ah_words, .int vh_groups, .ref ah_left, .int vh_leftLong, .ref ah_seen, .ref ah_text, .int vh_textLong, .int vh_spot, .ref ah_signs, .ref ah_pauses, .int vh_read])), (ah_all, .inl (g.2.1, 120, .inl vh_all)), (ah_kept, .inl (g.2.1, 120, .inl vh_kept))]) 0 0 := by
  induction fu with
  | zero => intro vh_historyLong vh_groups vh_leftLong vh_textLong vh_spot vh_read vh_all vh_kept x1 res hf; exact absurd hf (by intro h; cases h)
  | succ fu ih =>
    intro vh_historyLong vh_groups vh_leftLong vh_textLong vh_spot vh_read vh_all vh_kept x1 res hf
    rw [f_X5_keeps_L2] at hf
    refine bw_iload_n 1 dX5_keeps_2 rfl rfl ?_
    refine bw_bipush 120 dX5_keeps_3 (by decide) ?_
    refine bw_icmp_ge 26 dX5_keeps_5 (by decide) (fun c_4 => ?_) (fun c_4 => ?_)
    · have hf := bw_pos c_4 hf
      cases Option.some.inj hf
      exact bw_vret rfl (Nat.le_of_ble_eq_true rfl) (Nat.le_of_ble_eq_true rfl) dX5_keeps_26 ⟨rfl, rfl⟩
    · have hf := bw_neg c_4 hf
      refine bw_aload_n 0 dX5_keeps_8 rfl rfl ?_
      refine bw_gf bkX5 0 1 (by decide) fl_X5_13 rfl rfl dX5_keeps_9 ?_
      refine bw_iload_n 1 dX5_keeps_12 rfl rfl ?_
      refine bw_aload_n 0 dX5_keeps_13 rfl rfl ?_
      refine bw_gf bkX5 0 0 (by decide) fl_X5_7 rfl rfl dX5_keeps_14 ?_
      refine bw_iload_n 1 dX5_keeps_17 rfl rfl ?_
      obtain ⟨h_5, hf⟩ := bw_chk hf
      refine bw_iald 1 rfl h_5 dX5_keeps_18 ?_
      obtain ⟨h_6, hf⟩ := bw_chk hf
      refine bw_iast 2 ([(ah, .inr (5, [.ref ah_all, .ref ah_kept, .ref ah_history, .int vh_historyLong, .ref ah_slots, .ref ah_isSaved, .ref ah_words, .int vh_groups, .ref ah_left, .int vh_leftLong, .ref ah_seen, .ref ah_text, .int vh_textLong, .int vh_spot, .ref ah_signs, .ref ah_pauses, .int vh_read])), (ah_all, .inl (g.2.1, 120, .inl vh_all)), (ah_kept, .inl (g.2.1, 120, .inl ((upd vh_kept (Int32.toNatClampNeg x1) ((vh_all (Int32.toNatClampNeg x1)))))))]) rfl h_6 rfl dX5_keeps_19 ?_
      refine bw_iinc 1 (x1 + 1) [(1, .int ((x1 + 1))), (0, .ref ah)] dX5_keeps_20 rfl rfl (by decide) rfl ?_
      refine bw_goto 2 dX5_keeps_23 (by decide) ?_
      refine bw_lv [1, 0] rfl ?_
      exact ih vh_historyLong vh_groups vh_leftLong vh_textLong vh_spot vh_read vh_all ((upd vh_kept (Int32.toNatClampNeg x1) ((vh_all (Int32.toNatClampNeg x1))))) ((x1 + 1)) _ hf
theorem ar_X5_keeps : yX5_keeps.cls ≠ "java/lang/invoke/MethodHandle" ∧ yX5_keeps.cls ≠ "java/lang/invoke/VarHandle" ∧ (parseMethodDescriptor yX5_keeps.desc).map (fun d => d.parameters.length) = some 0 := ⟨by decide, by decide, by decide +kernel⟩
def f_X5_keeps (vh_all : Nat → Int32) (vh_kept : Nat → Int32)  : Option ((Nat → Int32)) := (f_X5_keeps_L2 bw_F vh_all vh_kept 0)
set_option maxHeartbeats 4000000 in
set_option maxRecDepth 100000 in
theorem s_X5_keeps (l : Launch) (g : bwG) (ah ah_all ah_kept ah_history ah_slots ah_isSaved ah_words ah_left ah_seen ah_text ah_signs ah_pauses : Nat) (vh_historyLong : Int32) (vh_groups : Int32) (vh_leftLong : Int32) (vh_textLong : Int32) (vh_spot : Int32) (vh_read : Int32) (vh_all : Nat → Int32) (vh_kept : Nat → Int32)  (res : (Nat → Int32)) (hf : f_X5_keeps vh_all vh_kept  = some res) : bwS l g yX5_keeps cX5_keeps 2 none ({ frames := 0, cells := 0, slots := 0, locals := 0 } : Room) [.ref ah] ([(ah, .inr (5, [.ref ah_all, .ref ah_kept, .ref ah_history, .int vh_historyLong, .ref ah_slots, .ref ah_isSaved, .ref ah_words, .int vh_groups, .ref ah_left, .int vh_leftLong, .ref ah_seen, .ref ah_text, .int vh_textLong, .int vh_spot, .ref ah_signs, .ref ah_pauses, .int vh_read])), (ah_all, .inl (g.2.1, 120, .inl vh_all)), (ah_kept, .inl (g.2.1, 120, .inl vh_kept))]) (fun r w => r = none ∧ w = [(ah, .inr (5, [.ref ah_all, .ref ah_kept, .ref ah_history, .int vh_historyLong, .ref ah_slots, .ref ah_isSaved, .ref ah_words, .int vh_groups, .ref ah_left, .int vh_leftLong, .ref ah_seen, .ref ah_text, .int vh_textLong, .int vh_spot, .ref ah_signs, .ref ah_pauses, .int vh_read])), (ah_all, .inl (g.2.1, 120, .inl vh_all)), (ah_kept, .inl (g.2.1, 120, .inl res))]) := by
  refine bwS_of (by decide) (Nat.le_of_ble_eq_true rfl) ?_
  unfold f_X5_keeps at hf
  show bwR l g cX5_keeps 2 RX5 "keeps" none ({ frames := 0, cells := 0, slots := 0, locals := 0 } : Room) bwT (bwZ g (fun r w => r = none ∧ w = [(ah, .inr (5, [.ref ah_all, .ref ah_kept, .ref ah_history, .int vh_historyLong, .ref ah_slots, .ref ah_isSaved, .ref ah_words, .int vh_groups, .ref ah_left, .int vh_leftLong, .ref ah_seen, .ref ah_text, .int vh_textLong, .int vh_spot, .ref ah_signs, .ref ah_pauses, .int vh_read])), (ah_all, .inl (g.2.1, 120, .inl vh_all)), (ah_kept, .inl (g.2.1, 120, .inl res))]) 0 0) 0 [(0, .ref ah)] [] ([(ah, .inr (5, [.ref ah_all, .ref ah_kept, .ref ah_history, .int vh_historyLong, .ref ah_slots, .ref ah_isSaved, .ref ah_words, .int vh_groups, .ref ah_left, .int vh_leftLong, .ref ah_seen, .ref ah_text, .int vh_textLong, .int vh_spot, .ref ah_signs, .ref ah_pauses, .int vh_read])), (ah_all, .inl (g.2.1, 120, .inl vh_all)), (ah_kept, .inl (g.2.1, 120, .inl vh_kept))]) 0 0
  refine bw_iconst 0 dX5_keeps_0 (by decide) ?_
  refine bw_istore_n [(1, .int 0), (0, .ref ah)] dX5_keeps_1 rfl (by decide) rfl ?_
  refine bw_lv [1, 0] rfl ?_
  exact s_X5_keeps_L2 l g ah ah_all ah_kept ah_history ah_slots ah_isSaved ah_words ah_left ah_seen ah_text ah_signs ah_pauses bw_F vh_historyLong vh_groups vh_leftLong vh_textLong vh_spot vh_read vh_all vh_kept 0 _ hf
def f_X5_comesBack_L2 : Nat → (Nat → Int32) → (Nat → Int32) → (Int32) → Option ((Nat → Int32))
  | 0, _, _, _ => none
  | fu + 1, vh_all, vh_kept, x1 => (if 120 ≤ x1 then some vh_all else (if bw_in x1 120 then (if bw_in x1 120 then (f_X5_comesBack_L2 fu ((upd vh_all (Int32.toNatClampNeg x1) ((vh_kept (Int32.toNatClampNeg x1))))) vh_kept ((x1 + 1))) else none) else none))
set_option maxHeartbeats 4000000 in
set_option maxRecDepth 100000 in
theorem s_X5_comesBack_L2 (l : Launch) (g : bwG) (ah ah_all ah_kept ah_history ah_slots ah_isSaved ah_words ah_left ah_seen ah_text ah_signs ah_pauses : Nat) (fu : Nat) : ∀ (vh_historyLong : Int32) (vh_groups : Int32) (vh_leftLong : Int32) (vh_textLong : Int32) (vh_spot : Int32) (vh_read : Int32) (vh_all : Nat → Int32) (vh_kept : Nat → Int32) (x1 : Int32) (res : (Nat → Int32)), f_X5_comesBack_L2 fu vh_all vh_kept x1 = some res → bwR l g cX5_comesBack 2 RX5 "comesBack" none ({ frames := 0, cells := 0, slots := 0, locals := 0 } : Room) bwT (bwZ g (fun r w => r = none ∧ w = [(ah, .inr (5, [.ref ah_all, .ref ah_kept, .ref ah_history, .int vh_historyLong, .ref ah_slots, .ref ah_isSaved, .ref ah_words, .int vh_groups, .ref ah_left, .int vh_leftLong, .ref ah_seen, .ref ah_text, .int vh_textLong, .int vh_spot, .ref ah_signs, .ref ah_pauses, .int vh_read])), (ah_all, .inl (g.2.1, 120, .inl res)), (ah_kept, .inl (g.2.1, 120, .inl vh_kept))]) 0 0) 2 [(0, .ref ah), (1, .int x1)] [] ([(ah, .inr (5, [.ref ah_all, .ref ah_kept, .ref ah_history, .int vh_historyLong, .ref ah_slots, .ref ah_isSaved, .ref ah_words, .int vh_groups, .ref ah_left, .int vh_leftLong, .ref ah_seen, .ref ah_text, .int vh_textLong, .int vh_spot, .ref ah_signs, .ref ah_pauses, .int vh_read])), (ah_all, .inl (g.2.1, 120, .inl vh_all)), (ah_kept, .inl (g.2.1, 120, .inl vh_kept))]) 0 0 := by
  induction fu with
  | zero => intro vh_historyLong vh_groups vh_leftLong vh_textLong vh_spot vh_read vh_all vh_kept x1 res hf; exact absurd hf (by intro h; cases h)
  | succ fu ih =>
    intro vh_historyLong vh_groups vh_leftLong vh_textLong vh_spot vh_read vh_all vh_kept x1 res hf
    rw [f_X5_comesBack_L2] at hf
    refine bw_iload_n 1 dX5_comesBack_2 rfl rfl ?_
    refine bw_bipush 120 dX5_comesBack_3 (by decide) ?_
    refine bw_icmp_ge 26 dX5_comesBack_5 (by decide) (fun c_4 => ?_) (fun c_4 => ?_)
    · have hf := bw_pos c_4 hf
      cases Option.some.inj hf
      exact bw_vret rfl (Nat.le_of_ble_eq_true rfl) (Nat.le_of_ble_eq_true rfl) dX5_comesBack_26 ⟨rfl, rfl⟩
    · have hf := bw_neg c_4 hf
      refine bw_aload_n 0 dX5_comesBack_8 rfl rfl ?_
      refine bw_gf bkX5 0 0 (by decide) fl_X5_7 rfl rfl dX5_comesBack_9 ?_
      refine bw_iload_n 1 dX5_comesBack_12 rfl rfl ?_
      refine bw_aload_n 0 dX5_comesBack_13 rfl rfl ?_
      refine bw_gf bkX5 0 1 (by decide) fl_X5_13 rfl rfl dX5_comesBack_14 ?_
      refine bw_iload_n 1 dX5_comesBack_17 rfl rfl ?_
      obtain ⟨h_5, hf⟩ := bw_chk hf
      refine bw_iald 2 rfl h_5 dX5_comesBack_18 ?_
      obtain ⟨h_6, hf⟩ := bw_chk hf
      refine bw_iast 1 ([(ah, .inr (5, [.ref ah_all, .ref ah_kept, .ref ah_history, .int vh_historyLong, .ref ah_slots, .ref ah_isSaved, .ref ah_words, .int vh_groups, .ref ah_left, .int vh_leftLong, .ref ah_seen, .ref ah_text, .int vh_textLong, .int vh_spot, .ref ah_signs, .ref ah_pauses, .int vh_read])), (ah_all, .inl (g.2.1, 120, .inl ((upd vh_all (Int32.toNatClampNeg x1) ((vh_kept (Int32.toNatClampNeg x1))))))), (ah_kept, .inl (g.2.1, 120, .inl vh_kept))]) rfl h_6 rfl dX5_comesBack_19 ?_
      refine bw_iinc 1 (x1 + 1) [(1, .int ((x1 + 1))), (0, .ref ah)] dX5_comesBack_20 rfl rfl (by decide) rfl ?_
      refine bw_goto 2 dX5_comesBack_23 (by decide) ?_
      refine bw_lv [1, 0] rfl ?_
      exact ih vh_historyLong vh_groups vh_leftLong vh_textLong vh_spot vh_read ((upd vh_all (Int32.toNatClampNeg x1) ((vh_kept (Int32.toNatClampNeg x1))))) vh_kept ((x1 + 1)) _ hf
theorem ar_X5_comesBack : yX5_comesBack.cls ≠ "java/lang/invoke/MethodHandle" ∧ yX5_comesBack.cls ≠ "java/lang/invoke/VarHandle" ∧ (parseMethodDescriptor yX5_comesBack.desc).map (fun d => d.parameters.length) = some 0 := ⟨by decide, by decide, by decide +kernel⟩
def f_X5_comesBack (vh_all : Nat → Int32) (vh_kept : Nat → Int32)  : Option ((Nat → Int32)) := (f_X5_comesBack_L2 bw_F vh_all vh_kept 0)
set_option maxHeartbeats 4000000 in
set_option maxRecDepth 100000 in
theorem s_X5_comesBack (l : Launch) (g : bwG) (ah ah_all ah_kept ah_history ah_slots ah_isSaved ah_words ah_left ah_seen ah_text ah_signs ah_pauses : Nat) (vh_historyLong : Int32) (vh_groups : Int32) (vh_leftLong : Int32) (vh_textLong : Int32) (vh_spot : Int32) (vh_read : Int32) (vh_all : Nat → Int32) (vh_kept : Nat → Int32)  (res : (Nat → Int32)) (hf : f_X5_comesBack vh_all vh_kept  = some res) : bwS l g yX5_comesBack cX5_comesBack 2 none ({ frames := 0, cells := 0, slots := 0, locals := 0 } : Room) [.ref ah] ([(ah, .inr (5, [.ref ah_all, .ref ah_kept, .ref ah_history, .int vh_historyLong, .ref ah_slots, .ref ah_isSaved, .ref ah_words, .int vh_groups, .ref ah_left, .int vh_leftLong, .ref ah_seen, .ref ah_text, .int vh_textLong, .int vh_spot, .ref ah_signs, .ref ah_pauses, .int vh_read])), (ah_all, .inl (g.2.1, 120, .inl vh_all)), (ah_kept, .inl (g.2.1, 120, .inl vh_kept))]) (fun r w => r = none ∧ w = [(ah, .inr (5, [.ref ah_all, .ref ah_kept, .ref ah_history, .int vh_historyLong, .ref ah_slots, .ref ah_isSaved, .ref ah_words, .int vh_groups, .ref ah_left, .int vh_leftLong, .ref ah_seen, .ref ah_text, .int vh_textLong, .int vh_spot, .ref ah_signs, .ref ah_pauses, .int vh_read])), (ah_all, .inl (g.2.1, 120, .inl res)), (ah_kept, .inl (g.2.1, 120, .inl vh_kept))]) := by
  refine bwS_of (by decide) (Nat.le_of_ble_eq_true rfl) ?_
  unfold f_X5_comesBack at hf
  show bwR l g cX5_comesBack 2 RX5 "comesBack" none ({ frames := 0, cells := 0, slots := 0, locals := 0 } : Room) bwT (bwZ g (fun r w => r = none ∧ w = [(ah, .inr (5, [.ref ah_all, .ref ah_kept, .ref ah_history, .int vh_historyLong, .ref ah_slots, .ref ah_isSaved, .ref ah_words, .int vh_groups, .ref ah_left, .int vh_leftLong, .ref ah_seen, .ref ah_text, .int vh_textLong, .int vh_spot, .ref ah_signs, .ref ah_pauses, .int vh_read])), (ah_all, .inl (g.2.1, 120, .inl res)), (ah_kept, .inl (g.2.1, 120, .inl vh_kept))]) 0 0) 0 [(0, .ref ah)] [] ([(ah, .inr (5, [.ref ah_all, .ref ah_kept, .ref ah_history, .int vh_historyLong, .ref ah_slots, .ref ah_isSaved, .ref ah_words, .int vh_groups, .ref ah_left, .int vh_leftLong, .ref ah_seen, .ref ah_text, .int vh_textLong, .int vh_spot, .ref ah_signs, .ref ah_pauses, .int vh_read])), (ah_all, .inl (g.2.1, 120, .inl vh_all)), (ah_kept, .inl (g.2.1, 120, .inl vh_kept))]) 0 0
  refine bw_iconst 0 dX5_comesBack_0 (by decide) ?_
  refine bw_istore_n [(1, .int 0), (0, .ref ah)] dX5_comesBack_1 rfl (by decide) rfl ?_
  refine bw_lv [1, 0] rfl ?_
  exact s_X5_comesBack_L2 l g ah ah_all ah_kept ah_history ah_slots ah_isSaved ah_words ah_left ah_seen ah_text ah_signs ah_pauses bw_F vh_historyLong vh_groups vh_leftLong vh_textLong vh_spot vh_read vh_all vh_kept 0 _ hf
theorem ar_X5_areEyes : yX5_areEyes.cls ≠ "java/lang/invoke/MethodHandle" ∧ yX5_areEyes.cls ≠ "java/lang/invoke/VarHandle" ∧ (parseMethodDescriptor yX5_areEyes.desc).map (fun d => d.parameters.length) = some 1 := ⟨by decide, by decide, by decide +kernel⟩
def f_X5_areEyes  (p0 : Int32) : Option (Int32) := ((f_X5_in (((p0 : Int32).toInt64)) 0 2).bind fun q_3 => (if bw_nb q_3 then some q_3 else none))
set_option maxHeartbeats 4000000 in
set_option maxRecDepth 100000 in
theorem s_X5_areEyes (l : Launch) (g : bwG)   (p0 : Int32) (res : Int32) (hf : f_X5_areEyes  p0 = some res) : bwS l g yX5_areEyes cX5_areEyes 1 (some .boolean) ({ frames := 1, cells := 0, slots := 0, locals := 25 } : Room) [.int p0] ([]) (fun r w => r = some (.int res) ∧ w = []) := by
  refine bwS_of (by decide) (Nat.le_of_ble_eq_true rfl) ?_
  unfold f_X5_areEyes at hf
  show bwR l g cX5_areEyes 1 RX5 "areEyes" (some .boolean) ({ frames := 1, cells := 0, slots := 0, locals := 25 } : Room) bwT (bwZ g (fun r w => r = some (.int res) ∧ w = []) 0 0) 0 [(0, .int p0)] [] ([]) 0 0
  refine bw_iload_n 0 dX5_areEyes_0 rfl rfl ?_
  refine bw_i2l dX5_areEyes_1 ?_
  refine bw_lconst 0 dX5_areEyes_2 (by decide) ?_
  refine bw_ldc2 ct_X5_47 dX5_areEyes_3 ?_
  obtain ⟨q_3, hc_3, hf⟩ := bw_bind hf
  refine bw_callS [.long (((p0 : Int32).toInt64)), .long 0, .long 2] [] [] (s_X5_in l g   (((p0 : Int32).toInt64)) 0 2 _ hc_3) rfl co_X5_in ini_X5 ml_X5_49 st_X5_in ar_X5_in ⟨Nat.le_of_ble_eq_true rfl, Nat.le_of_ble_eq_true rfl⟩ ⟨Nat.le_of_ble_eq_true rfl, Nat.le_of_ble_eq_true rfl⟩ (bw_pick1 0 [] rfl rfl (by decide)) (Nat.le_of_ble_eq_true rfl) dX5_areEyes_6 (fun r w1 hq => ?_)
  obtain ⟨rfl, rfl⟩ := hq
  refine bw_perm (ws1 := []) (bw_pick1 0 [] rfl rfl (by decide)) ?_
  refine bw_st (st1 := [.int q_3]) rfl ?_
  obtain ⟨h_4, hf⟩ := bw_chk hf
  cases Option.some.inj hf
  exact bw_ret rfl (bw_nbp h_4) (Nat.le_of_ble_eq_true rfl) (Nat.le_of_ble_eq_true rfl) dX5_areEyes_9 ⟨rfl, rfl⟩
theorem ar_X5_isCourtier : yX5_isCourtier.cls ≠ "java/lang/invoke/MethodHandle" ∧ yX5_isCourtier.cls ≠ "java/lang/invoke/VarHandle" ∧ (parseMethodDescriptor yX5_isCourtier.desc).map (fun d => d.parameters.length) = some 1 := ⟨by decide, by decide, by decide +kernel⟩
def f_X5_isCourtier  (p0 : Int32) : Option (Int32) := ((f_X5_in (((p0 : Int32).toInt64)) 0 5).bind fun q_3 => (if bw_nb q_3 then some q_3 else none))
set_option maxHeartbeats 4000000 in
set_option maxRecDepth 100000 in
theorem s_X5_isCourtier (l : Launch) (g : bwG)   (p0 : Int32) (res : Int32) (hf : f_X5_isCourtier  p0 = some res) : bwS l g yX5_isCourtier cX5_isCourtier 1 (some .boolean) ({ frames := 1, cells := 0, slots := 0, locals := 25 } : Room) [.int p0] ([]) (fun r w => r = some (.int res) ∧ w = []) := by
  refine bwS_of (by decide) (Nat.le_of_ble_eq_true rfl) ?_
  unfold f_X5_isCourtier at hf
  show bwR l g cX5_isCourtier 1 RX5 "isCourtier" (some .boolean) ({ frames := 1, cells := 0, slots := 0, locals := 25 } : Room) bwT (bwZ g (fun r w => r = some (.int res) ∧ w = []) 0 0) 0 [(0, .int p0)] [] ([]) 0 0
  refine bw_iload_n 0 dX5_isCourtier_0 rfl rfl ?_
  refine bw_i2l dX5_isCourtier_1 ?_
  refine bw_lconst 0 dX5_isCourtier_2 (by decide) ?_
  refine bw_ldc2 ct_X5_53 dX5_isCourtier_3 ?_
  obtain ⟨q_3, hc_3, hf⟩ := bw_bind hf
  refine bw_callS [.long (((p0 : Int32).toInt64)), .long 0, .long 5] [] [] (s_X5_in l g   (((p0 : Int32).toInt64)) 0 5 _ hc_3) rfl co_X5_in ini_X5 ml_X5_49 st_X5_in ar_X5_in ⟨Nat.le_of_ble_eq_true rfl, Nat.le_of_ble_eq_true rfl⟩ ⟨Nat.le_of_ble_eq_true rfl, Nat.le_of_ble_eq_true rfl⟩ (bw_pick1 0 [] rfl rfl (by decide)) (Nat.le_of_ble_eq_true rfl) dX5_isCourtier_6 (fun r w1 hq => ?_)
  obtain ⟨rfl, rfl⟩ := hq
  refine bw_perm (ws1 := []) (bw_pick1 0 [] rfl rfl (by decide)) ?_
  refine bw_st (st1 := [.int q_3]) rfl ?_
  obtain ⟨h_4, hf⟩ := bw_chk hf
  cases Option.some.inj hf
  exact bw_ret rfl (bw_nbp h_4) (Nat.le_of_ble_eq_true rfl) (Nat.le_of_ble_eq_true rfl) dX5_isCourtier_9 ⟨rfl, rfl⟩
theorem ar_X5_signSeen : yX5_signSeen.cls ≠ "java/lang/invoke/MethodHandle" ∧ yX5_signSeen.cls ≠ "java/lang/invoke/VarHandle" ∧ (parseMethodDescriptor yX5_signSeen.desc).map (fun d => d.parameters.length) = some 2 := ⟨by decide, by decide, by decide +kernel⟩
def f_X5_signSeen (vh_all : Nat → Int32) (p0 : Int32) (p1 : Int32) : Option (Int32) := (if bw_in ((48 + p0)) 120 then (if p1 = 1 then (if (vh_all (Int32.toNatClampNeg ((48 + p0)))) ≤ 3 then some (vh_all (Int32.toNatClampNeg ((48 + p0)))) else some ((vh_all (Int32.toNatClampNeg ((48 + p0)))) - 2)) else some (vh_all (Int32.toNatClampNeg ((48 + p0))))) else none)
set_option maxHeartbeats 4000000 in
set_option maxRecDepth 100000 in
theorem s_X5_signSeen (l : Launch) (g : bwG) (ah ah_all ah_kept ah_history ah_slots ah_isSaved ah_words ah_left ah_seen ah_text ah_signs ah_pauses : Nat) (vh_historyLong : Int32) (vh_groups : Int32) (vh_leftLong : Int32) (vh_textLong : Int32) (vh_spot : Int32) (vh_read : Int32) (vh_all : Nat → Int32) (p0 : Int32) (p1 : Int32) (res : Int32) (hf : f_X5_signSeen vh_all p0 p1 = some res) : bwS l g yX5_signSeen cX5_signSeen 4 (some .int) ({ frames := 0, cells := 0, slots := 0, locals := 0 } : Room) [.ref ah, .int p0, .int p1] ([(ah, .inr (5, [.ref ah_all, .ref ah_kept, .ref ah_history, .int vh_historyLong, .ref ah_slots, .ref ah_isSaved, .ref ah_words, .int vh_groups, .ref ah_left, .int vh_leftLong, .ref ah_seen, .ref ah_text, .int vh_textLong, .int vh_spot, .ref ah_signs, .ref ah_pauses, .int vh_read])), (ah_all, .inl (g.2.1, 120, .inl vh_all))]) (fun r w => r = some (.int res) ∧ w = [(ah, .inr (5, [.ref ah_all, .ref ah_kept, .ref ah_history, .int vh_historyLong, .ref ah_slots, .ref ah_isSaved, .ref ah_words, .int vh_groups, .ref ah_left, .int vh_leftLong, .ref ah_seen, .ref ah_text, .int vh_textLong, .int vh_spot, .ref ah_signs, .ref ah_pauses, .int vh_read])), (ah_all, .inl (g.2.1, 120, .inl vh_all))]) := by
  refine bwS_of (by decide) (Nat.le_of_ble_eq_true rfl) ?_
  unfold f_X5_signSeen at hf
  show bwR l g cX5_signSeen 4 RX5 "signSeen" (some .int) ({ frames := 0, cells := 0, slots := 0, locals := 0 } : Room) bwT (bwZ g (fun r w => r = some (.int res) ∧ w = [(ah, .inr (5, [.ref ah_all, .ref ah_kept, .ref ah_history, .int vh_historyLong, .ref ah_slots, .ref ah_isSaved, .ref ah_words, .int vh_groups, .ref ah_left, .int vh_leftLong, .ref ah_seen, .ref ah_text, .int vh_textLong, .int vh_spot, .ref ah_signs, .ref ah_pauses, .int vh_read])), (ah_all, .inl (g.2.1, 120, .inl vh_all))]) 0 0) 0 [(0, .ref ah), (1, .int p0), (2, .int p1)] [] ([(ah, .inr (5, [.ref ah_all, .ref ah_kept, .ref ah_history, .int vh_historyLong, .ref ah_slots, .ref ah_isSaved, .ref ah_words, .int vh_groups, .ref ah_left, .int vh_leftLong, .ref ah_seen, .ref ah_text, .int vh_textLong, .int vh_spot, .ref ah_signs, .ref ah_pauses, .int vh_read])), (ah_all, .inl (g.2.1, 120, .inl vh_all))]) 0 0
  refine bw_aload_n 0 dX5_signSeen_0 rfl rfl ?_
  refine bw_gf bkX5 0 0 (by decide) fl_X5_7 rfl rfl dX5_signSeen_1 ?_
  refine bw_bipush 48 dX5_signSeen_4 (by decide) ?_
  refine bw_iload_n 1 dX5_signSeen_6 rfl rfl ?_
  refine bw_iadd dX5_signSeen_7 ?_
  obtain ⟨h_4, hf⟩ := bw_chk hf
  refine bw_iald 1 rfl h_4 dX5_signSeen_8 ?_
  refine bw_istore_n [(3, .int ((vh_all (Int32.toNatClampNeg ((48 + p0)))))), (0, .ref ah), (1, .int p0), (2, .int p1)] dX5_signSeen_9 rfl (by decide) rfl ?_
  refine bw_iload_n 3 dX5_signSeen_10 rfl rfl ?_
  refine bw_iconst 1 dX5_signSeen_11 (by decide) ?_
  refine bw_icmp_ne 26 dX5_signSeen_12 (by decide) (fun c_5 => ?_) (fun c_5 => ?_)
  · have hf := bw_neg c_5 hf
    refine bw_iload_n 0 dX5_signSeen_26 rfl rfl ?_
    cases Option.some.inj hf
    exact bw_ret rfl rfl (Nat.le_of_ble_eq_true rfl) (Nat.le_of_ble_eq_true rfl) dX5_signSeen_27 ⟨rfl, rfl⟩
  · have hf := bw_pos c_5 hf
    refine bw_iload_n 0 dX5_signSeen_15 rfl rfl ?_
    refine bw_iconst 3 dX5_signSeen_16 (by decide) ?_
    refine bw_icmp_le 26 dX5_signSeen_17 (by decide) (fun c_6 => ?_) (fun c_6 => ?_)
    · have hf := bw_pos c_6 hf
      refine bw_iload_n 0 dX5_signSeen_26 rfl rfl ?_
      cases Option.some.inj hf
      exact bw_ret rfl rfl (Nat.le_of_ble_eq_true rfl) (Nat.le_of_ble_eq_true rfl) dX5_signSeen_27 ⟨rfl, rfl⟩
    · have hf := bw_neg c_6 hf
      refine bw_iload_n 0 dX5_signSeen_20 rfl rfl ?_
      refine bw_iconst 2 dX5_signSeen_21 (by decide) ?_
      refine bw_isub dX5_signSeen_22 ?_
      refine bw_goto 27 dX5_signSeen_23 (by decide) ?_
      cases Option.some.inj hf
      exact bw_ret rfl rfl (Nat.le_of_ble_eq_true rfl) (Nat.le_of_ble_eq_true rfl) dX5_signSeen_27 ⟨rfl, rfl⟩
theorem ar_X5_endsSeen : yX5_endsSeen.cls ≠ "java/lang/invoke/MethodHandle" ∧ yX5_endsSeen.cls ≠ "java/lang/invoke/VarHandle" ∧ (parseMethodDescriptor yX5_endsSeen.desc).map (fun d => d.parameters.length) = some 2 := ⟨by decide, by decide, by decide +kernel⟩
def f_X5_endsSeen (vh_all : Nat → Int32) (p0 : Int32) (p1 : Int32) : Option (Int32) := (if bw_in ((72 + p0)) 120 then (if bw_in 3 120 then (if p0 = ((vh_all (Int32.toNatClampNeg 3)) - 1) then some 1 else (if bw_in 0 120 then (if (vh_all (Int32.toNatClampNeg 0)) ≤ (vh_all (Int32.toNatClampNeg ((72 + p0)))) then some 1 else (if p1 = 2 then (if (vh_all (Int32.toNatClampNeg ((72 + p0)))) ≤ 0 then some 0 else some 1) else some 0)) else none)) else none) else none)
set_option maxHeartbeats 4000000 in
set_option maxRecDepth 100000 in
theorem s_X5_endsSeen (l : Launch) (g : bwG) (ah ah_all ah_kept ah_history ah_slots ah_isSaved ah_words ah_left ah_seen ah_text ah_signs ah_pauses : Nat) (vh_historyLong : Int32) (vh_groups : Int32) (vh_leftLong : Int32) (vh_textLong : Int32) (vh_spot : Int32) (vh_read : Int32) (vh_all : Nat → Int32) (p0 : Int32) (p1 : Int32) (res : Int32) (hf : f_X5_endsSeen vh_all p0 p1 = some res) : bwS l g yX5_endsSeen cX5_endsSeen 4 (some .boolean) ({ frames := 0, cells := 0, slots := 0, locals := 0 } : Room) [.ref ah, .int p0, .int p1] ([(ah, .inr (5, [.ref ah_all, .ref ah_kept, .ref ah_history, .int vh_historyLong, .ref ah_slots, .ref ah_isSaved, .ref ah_words, .int vh_groups, .ref ah_left, .int vh_leftLong, .ref ah_seen, .ref ah_text, .int vh_textLong, .int vh_spot, .ref ah_signs, .ref ah_pauses, .int vh_read])), (ah_all, .inl (g.2.1, 120, .inl vh_all))]) (fun r w => r = some (.int res) ∧ w = [(ah, .inr (5, [.ref ah_all, .ref ah_kept, .ref ah_history, .int vh_historyLong, .ref ah_slots, .ref ah_isSaved, .ref ah_words, .int vh_groups, .ref ah_left, .int vh_leftLong, .ref ah_seen, .ref ah_text, .int vh_textLong, .int vh_spot, .ref ah_signs, .ref ah_pauses, .int vh_read])), (ah_all, .inl (g.2.1, 120, .inl vh_all))]) := by
  refine bwS_of (by decide) (Nat.le_of_ble_eq_true rfl) ?_
  unfold f_X5_endsSeen at hf
  show bwR l g cX5_endsSeen 4 RX5 "endsSeen" (some .boolean) ({ frames := 0, cells := 0, slots := 0, locals := 0 } : Room) bwT (bwZ g (fun r w => r = some (.int res) ∧ w = [(ah, .inr (5, [.ref ah_all, .ref ah_kept, .ref ah_history, .int vh_historyLong, .ref ah_slots, .ref ah_isSaved, .ref ah_words, .int vh_groups, .ref ah_left, .int vh_leftLong, .ref ah_seen, .ref ah_text, .int vh_textLong, .int vh_spot, .ref ah_signs, .ref ah_pauses, .int vh_read])), (ah_all, .inl (g.2.1, 120, .inl vh_all))]) 0 0) 0 [(0, .ref ah), (1, .int p0), (2, .int p1)] [] ([(ah, .inr (5, [.ref ah_all, .ref ah_kept, .ref ah_history, .int vh_historyLong, .ref ah_slots, .ref ah_isSaved, .ref ah_words, .int vh_groups, .ref ah_left, .int vh_leftLong, .ref ah_seen, .ref ah_text, .int vh_textLong, .int vh_spot, .ref ah_signs, .ref ah_pauses, .int vh_read])), (ah_all, .inl (g.2.1, 120, .inl vh_all))]) 0 0
  refine bw_aload_n 0 dX5_endsSeen_0 rfl rfl ?_
  refine bw_gf bkX5 0 0 (by decide) fl_X5_7 rfl rfl dX5_endsSeen_1 ?_
  refine bw_bipush 72 dX5_endsSeen_4 (by decide) ?_
  refine bw_iload_n 1 dX5_endsSeen_6 rfl rfl ?_
  refine bw_iadd dX5_endsSeen_7 ?_
  obtain ⟨h_8, hf⟩ := bw_chk hf
  refine bw_iald 1 rfl h_8 dX5_endsSeen_8 ?_
  refine bw_istore_n [(3, .int ((vh_all (Int32.toNatClampNeg ((72 + p0)))))), (0, .ref ah), (1, .int p0), (2, .int p1)] dX5_endsSeen_9 rfl (by decide) rfl ?_
  refine bw_iload_n 2 dX5_endsSeen_10 rfl rfl ?_
  refine bw_aload_n 1 dX5_endsSeen_11 rfl rfl ?_
  refine bw_gf bkX5 0 0 (by decide) fl_X5_7 rfl rfl dX5_endsSeen_12 ?_
  refine bw_iconst 3 dX5_endsSeen_15 (by decide) ?_
  obtain ⟨h_9, hf⟩ := bw_chk hf
  refine bw_iald 1 rfl h_9 dX5_endsSeen_16 ?_
  refine bw_iconst 1 dX5_endsSeen_17 (by decide) ?_
  refine bw_isub dX5_endsSeen_18 ?_
  refine bw_icmp_eq 41 dX5_endsSeen_19 (by decide) (fun c_10 => ?_) (fun c_10 => ?_)
  · have hf := bw_pos c_10 hf
    refine bw_iconst 1 dX5_endsSeen_41 (by decide) ?_
    refine bw_goto 46 dX5_endsSeen_42 (by decide) ?_
    cases Option.some.inj hf
    exact bw_ret rfl rfl (Nat.le_of_ble_eq_true rfl) (Nat.le_of_ble_eq_true rfl) dX5_endsSeen_46 ⟨rfl, rfl⟩
  · have hf := bw_neg c_10 hf
    refine bw_iload_n 0 dX5_endsSeen_22 rfl rfl ?_
    refine bw_aload_n 1 dX5_endsSeen_23 rfl rfl ?_
    refine bw_gf bkX5 0 0 (by decide) fl_X5_7 rfl rfl dX5_endsSeen_24 ?_
    refine bw_iconst 0 dX5_endsSeen_27 (by decide) ?_
    obtain ⟨h_11, hf⟩ := bw_chk hf
    refine bw_iald 1 rfl h_11 dX5_endsSeen_28 ?_
    refine bw_icmp_ge 41 dX5_endsSeen_29 (by decide) (fun c_12 => ?_) (fun c_12 => ?_)
    · have hf := bw_pos c_12 hf
      refine bw_iconst 1 dX5_endsSeen_41 (by decide) ?_
      refine bw_goto 46 dX5_endsSeen_42 (by decide) ?_
      cases Option.some.inj hf
      exact bw_ret rfl rfl (Nat.le_of_ble_eq_true rfl) (Nat.le_of_ble_eq_true rfl) dX5_endsSeen_46 ⟨rfl, rfl⟩
    · have hf := bw_neg c_12 hf
      refine bw_iload_n 3 dX5_endsSeen_32 rfl rfl ?_
      refine bw_iconst 2 dX5_endsSeen_33 (by decide) ?_
      refine bw_icmp_ne 45 dX5_endsSeen_34 (by decide) (fun c_13 => ?_) (fun c_13 => ?_)
      · have hf := bw_neg c_13 hf
        refine bw_iconst 0 dX5_endsSeen_45 (by decide) ?_
        cases Option.some.inj hf
        exact bw_ret rfl rfl (Nat.le_of_ble_eq_true rfl) (Nat.le_of_ble_eq_true rfl) dX5_endsSeen_46 ⟨rfl, rfl⟩
      · have hf := bw_pos c_13 hf
        refine bw_iload_n 0 dX5_endsSeen_37 rfl rfl ?_
        refine bw_if_le 45 dX5_endsSeen_38 (by decide) (fun c_14 => ?_) (fun c_14 => ?_)
        · have hf := bw_pos c_14 hf
          refine bw_iconst 0 dX5_endsSeen_45 (by decide) ?_
          cases Option.some.inj hf
          exact bw_ret rfl rfl (Nat.le_of_ble_eq_true rfl) (Nat.le_of_ble_eq_true rfl) dX5_endsSeen_46 ⟨rfl, rfl⟩
        · have hf := bw_neg c_14 hf
          refine bw_iconst 1 dX5_endsSeen_41 (by decide) ?_
          refine bw_goto 46 dX5_endsSeen_42 (by decide) ?_
          cases Option.some.inj hf
          exact bw_ret rfl rfl (Nat.le_of_ble_eq_true rfl) (Nat.le_of_ble_eq_true rfl) dX5_endsSeen_46 ⟨rfl, rfl⟩
theorem ar_X5_isFlourish : yX5_isFlourish.cls ≠ "java/lang/invoke/MethodHandle" ∧ yX5_isFlourish.cls ≠ "java/lang/invoke/VarHandle" ∧ (parseMethodDescriptor yX5_isFlourish.desc).map (fun d => d.parameters.length) = some 1 := ⟨by decide, by decide, by decide +kernel⟩
def f_X5_isFlourish  (p0 : Int32) : Option (Int32) := (if p0 < 42 then some 0 else some 1)
set_option maxHeartbeats 4000000 in
set_option maxRecDepth 100000 in
theorem s_X5_isFlourish (l : Launch) (g : bwG)   (p0 : Int32) (res : Int32) (hf : f_X5_isFlourish  p0 = some res) : bwS l g yX5_isFlourish cX5_isFlourish 1 (some .boolean) ({ frames := 0, cells := 0, slots := 0, locals := 0 } : Room) [.int p0] ([]) (fun r w => r = some (.int res) ∧ w = []) := by
  refine bwS_of (by decide) (Nat.le_of_ble_eq_true rfl) ?_
  unfold f_X5_isFlourish at hf
  show bwR l g cX5_isFlourish 1 RX5 "isFlourish" (some .boolean) ({ frames := 0, cells := 0, slots := 0, locals := 0 } : Room) bwT (bwZ g (fun r w => r = some (.int res) ∧ w = []) 0 0) 0 [(0, .int p0)] [] ([]) 0 0
  refine bw_iload_n 0 dX5_isFlourish_0 rfl rfl ?_
  refine bw_bipush 42 dX5_isFlourish_1 (by decide) ?_
  refine bw_icmp_lt 10 dX5_isFlourish_3 (by decide) (fun c_2 => ?_) (fun c_2 => ?_)
  · have hf := bw_pos c_2 hf
    refine bw_iconst 0 dX5_isFlourish_10 (by decide) ?_
    cases Option.some.inj hf
    exact bw_ret rfl rfl (Nat.le_of_ble_eq_true rfl) (Nat.le_of_ble_eq_true rfl) dX5_isFlourish_11 ⟨rfl, rfl⟩
  · have hf := bw_neg c_2 hf
    refine bw_iconst 1 dX5_isFlourish_6 (by decide) ?_
    refine bw_goto 11 dX5_isFlourish_7 (by decide) ?_
    cases Option.some.inj hf
    exact bw_ret rfl rfl (Nat.le_of_ble_eq_true rfl) (Nat.le_of_ble_eq_true rfl) dX5_isFlourish_11 ⟨rfl, rfl⟩
theorem ar_X5_isDeed : yX5_isDeed.cls ≠ "java/lang/invoke/MethodHandle" ∧ yX5_isDeed.cls ≠ "java/lang/invoke/VarHandle" ∧ (parseMethodDescriptor yX5_isDeed.desc).map (fun d => d.parameters.length) = some 1 := ⟨by decide, by decide, by decide +kernel⟩
def f_X5_isDeed  (p0 : Int32) : Option (Int32) := ((f_X5_in (((p0 : Int32).toInt64)) 6 41).bind fun q_3 => (if bw_nb q_3 then some q_3 else none))
set_option maxHeartbeats 4000000 in
set_option maxRecDepth 100000 in
theorem s_X5_isDeed (l : Launch) (g : bwG)   (p0 : Int32) (res : Int32) (hf : f_X5_isDeed  p0 = some res) : bwS l g yX5_isDeed cX5_isDeed 1 (some .boolean) ({ frames := 1, cells := 0, slots := 0, locals := 25 } : Room) [.int p0] ([]) (fun r w => r = some (.int res) ∧ w = []) := by
  refine bwS_of (by decide) (Nat.le_of_ble_eq_true rfl) ?_
  unfold f_X5_isDeed at hf
  show bwR l g cX5_isDeed 1 RX5 "isDeed" (some .boolean) ({ frames := 1, cells := 0, slots := 0, locals := 25 } : Room) bwT (bwZ g (fun r w => r = some (.int res) ∧ w = []) 0 0) 0 [(0, .int p0)] [] ([]) 0 0
  refine bw_iload_n 0 dX5_isDeed_0 rfl rfl ?_
  refine bw_i2l dX5_isDeed_1 ?_
  refine bw_ldc2 ct_X5_55 dX5_isDeed_2 ?_
  refine bw_ldc2 ct_X5_57 dX5_isDeed_5 ?_
  obtain ⟨q_3, hc_3, hf⟩ := bw_bind hf
  refine bw_callS [.long (((p0 : Int32).toInt64)), .long 6, .long 41] [] [] (s_X5_in l g   (((p0 : Int32).toInt64)) 6 41 _ hc_3) rfl co_X5_in ini_X5 ml_X5_49 st_X5_in ar_X5_in ⟨Nat.le_of_ble_eq_true rfl, Nat.le_of_ble_eq_true rfl⟩ ⟨Nat.le_of_ble_eq_true rfl, Nat.le_of_ble_eq_true rfl⟩ (bw_pick1 0 [] rfl rfl (by decide)) (Nat.le_of_ble_eq_true rfl) dX5_isDeed_8 (fun r w1 hq => ?_)
  obtain ⟨rfl, rfl⟩ := hq
  refine bw_perm (ws1 := []) (bw_pick1 0 [] rfl rfl (by decide)) ?_
  refine bw_st (st1 := [.int q_3]) rfl ?_
  obtain ⟨h_4, hf⟩ := bw_chk hf
  cases Option.some.inj hf
  exact bw_ret rfl (bw_nbp h_4) (Nat.le_of_ble_eq_true rfl) (Nat.le_of_ble_eq_true rfl) dX5_isDeed_11 ⟨rfl, rfl⟩
def f_X5_parts_L130 : Nat → (Int32) → (Int32) → (Nat → Int32) → (Nat → Int32) → (Nat → Int32) → (Int32) → (Int32) → (Int32) → (Int32) → Option ((Int32) × (Int32) × (Nat → Int32) × (Nat → Int32))
  | 0, _, _, _, _, _, _, _, _, _ => none
  | fu + 1, vh_groups, vh_leftLong, vh_all, vh_words, vh_left, x1, x2, x3, x4 => (if vh_groups ≤ x4 then some (vh_groups, vh_leftLong, vh_words, vh_left) else (if bw_in x4 24 then ((f_X5_isFlourish ((vh_words (Int32.toNatClampNeg x4)))).bind fun q_31 => (if q_31 = 0 then (if bw_in x4 24 then (if bw_in vh_leftLong 24 then (f_X5_parts_L130 fu vh_groups ((vh_leftLong + 1)) vh_all vh_words ((upd vh_left (Int32.toNatClampNeg vh_leftLong) ((vh_words (Int32.toNatClampNeg x4))))) x1 x2 x3 ((x4 + 1))) else none) else none) else (f_X5_parts_L130 fu vh_groups vh_leftLong vh_all vh_words vh_left x1 x2 x3 ((x4 + 1))))) else none))
set_option maxHeartbeats 4000000 in
set_option maxRecDepth 100000 in
theorem s_X5_parts_L130 (l : Launch) (g : bwG) (ah ah_all ah_kept ah_history ah_slots ah_isSaved ah_words ah_left ah_seen ah_text ah_signs ah_pauses : Nat) (fu : Nat) : ∀ (vh_historyLong : Int32) (vh_groups : Int32) (vh_leftLong : Int32) (vh_textLong : Int32) (vh_spot : Int32) (vh_read : Int32) (vh_all : Nat → Int32) (vh_words : Nat → Int32) (vh_left : Nat → Int32) (x1 : Int32) (x2 : Int32) (x3 : Int32) (x4 : Int32) (res : (Int32) × (Int32) × (Nat → Int32) × (Nat → Int32)), f_X5_parts_L130 fu vh_groups vh_leftLong vh_all vh_words vh_left x1 x2 x3 x4 = some res → bwR l g cX5_parts 5 RX5 "parts" none ({ frames := 1, cells := 0, slots := 0, locals := 23 } : Room) bwT (bwZ g (fun r w => r = none ∧ w = [(ah, .inr (5, [.ref ah_all, .ref ah_kept, .ref ah_history, .int vh_historyLong, .ref ah_slots, .ref ah_isSaved, .ref ah_words, .int res.1, .ref ah_left, .int res.2.1, .ref ah_seen, .ref ah_text, .int vh_textLong, .int vh_spot, .ref ah_signs, .ref ah_pauses, .int vh_read])), (ah_all, .inl (g.2.1, 120, .inl vh_all)), (ah_words, .inl (g.2.1, 24, .inl res.2.2.1)), (ah_left, .inl (g.2.1, 24, .inl res.2.2.2))]) 0 0) 130 [(0, .ref ah), (1, .int x1), (2, .int x2), (3, .int x3), (4, .int x4)] [] ([(ah, .inr (5, [.ref ah_all, .ref ah_kept, .ref ah_history, .int vh_historyLong, .ref ah_slots, .ref ah_isSaved, .ref ah_words, .int vh_groups, .ref ah_left, .int vh_leftLong, .ref ah_seen, .ref ah_text, .int vh_textLong, .int vh_spot, .ref ah_signs, .ref ah_pauses, .int vh_read])), (ah_all, .inl (g.2.1, 120, .inl vh_all)), (ah_words, .inl (g.2.1, 24, .inl vh_words)), (ah_left, .inl (g.2.1, 24, .inl vh_left))]) 0 0 := by
  induction fu with
  | zero => intro vh_historyLong vh_groups vh_leftLong vh_textLong vh_spot vh_read vh_all vh_words vh_left x1 x2 x3 x4 res hf; exact absurd hf (by intro h; cases h)
  | succ fu ih =>
    intro vh_historyLong vh_groups vh_leftLong vh_textLong vh_spot vh_read vh_all vh_words vh_left x1 x2 x3 x4 res hf
    rw [f_X5_parts_L130] at hf
    refine bw_iload 4 dX5_parts_130 rfl ?_
    refine bw_aload_n 0 dX5_parts_132 rfl rfl ?_
    refine bw_gf bkX5 0 7 (by decide) fl_X5_59 rfl rfl dX5_parts_133 ?_
    refine bw_icmp_ge 184 dX5_parts_136 (by decide) (fun c_29 => ?_) (fun c_29 => ?_)
    · have hf := bw_pos c_29 hf
      cases Option.some.inj hf
      exact bw_vret rfl (Nat.le_of_ble_eq_true rfl) (Nat.le_of_ble_eq_true rfl) dX5_parts_184 ⟨rfl, rfl⟩
    · have hf := bw_neg c_29 hf
      refine bw_aload_n 0 dX5_parts_139 rfl rfl ?_
      refine bw_gf bkX5 0 6 (by decide) fl_X5_25 rfl rfl dX5_parts_140 ?_
      refine bw_iload 4 dX5_parts_143 rfl ?_
      obtain ⟨h_30, hf⟩ := bw_chk hf
      refine bw_iald 2 rfl h_30 dX5_parts_145 ?_
      obtain ⟨q_31, hc_31, hf⟩ := bw_bind hf
      refine bw_callS [.int ((vh_words (Int32.toNatClampNeg x4)))] [] [(ah, .inr (5, [.ref ah_all, .ref ah_kept, .ref ah_history, .int vh_historyLong, .ref ah_slots, .ref ah_isSaved, .ref ah_words, .int vh_groups, .ref ah_left, .int vh_leftLong, .ref ah_seen, .ref ah_text, .int vh_textLong, .int vh_spot, .ref ah_signs, .ref ah_pauses, .int vh_read])), (ah_all, .inl (g.2.1, 120, .inl vh_all)), (ah_words, .inl (g.2.1, 24, .inl vh_words)), (ah_left, .inl (g.2.1, 24, .inl vh_left))] (s_X5_isFlourish l g   ((vh_words (Int32.toNatClampNeg x4))) _ hc_31) rfl co_X5_isFlourish ini_X5 ml_X5_74 st_X5_isFlourish ar_X5_isFlourish ⟨Nat.le_of_ble_eq_true rfl, Nat.le_of_ble_eq_true rfl⟩ ⟨Nat.le_of_ble_eq_true rfl, Nat.le_of_ble_eq_true rfl⟩ (bw_pick1 4 [0, 1, 2, 3] rfl rfl (by decide)) (Nat.le_of_ble_eq_true rfl) dX5_parts_146 (fun r w1 hq => ?_)
      obtain ⟨rfl, rfl⟩ := hq
      refine bw_perm (ws1 := [(ah, .inr (5, [.ref ah_all, .ref ah_kept, .ref ah_history, .int vh_historyLong, .ref ah_slots, .ref ah_isSaved, .ref ah_words, .int vh_groups, .ref ah_left, .int vh_leftLong, .ref ah_seen, .ref ah_text, .int vh_textLong, .int vh_spot, .ref ah_signs, .ref ah_pauses, .int vh_read])), (ah_all, .inl (g.2.1, 120, .inl vh_all)), (ah_words, .inl (g.2.1, 24, .inl vh_words)), (ah_left, .inl (g.2.1, 24, .inl vh_left))]) (bw_pick1 4 [0, 1, 2, 3] rfl rfl (by decide)) ?_
      refine bw_st (st1 := [.int q_31]) rfl ?_
      refine bw_if_ne 178 dX5_parts_149 (by decide) (fun c_32 => ?_) (fun c_32 => ?_)
      · have hf := bw_neg c_32 hf
        refine bw_iinc 4 (x4 + 1) [(4, .int ((x4 + 1))), (0, .ref ah), (1, .int x1), (2, .int x2), (3, .int x3)] dX5_parts_178 rfl rfl (by decide) rfl ?_
        refine bw_goto 130 dX5_parts_181 (by decide) ?_
        refine bw_lv [1, 2, 3, 4, 0] rfl ?_
        exact ih vh_historyLong vh_groups vh_leftLong vh_textLong vh_spot vh_read vh_all vh_words vh_left x1 x2 x3 ((x4 + 1)) _ hf
      · have hf := bw_pos c_32 hf
        refine bw_aload_n 0 dX5_parts_152 rfl rfl ?_
        refine bw_gf bkX5 0 8 (by decide) fl_X5_28 rfl rfl dX5_parts_153 ?_
        refine bw_aload_n 0 dX5_parts_156 rfl rfl ?_
        refine bw_gf bkX5 0 9 (by decide) fl_X5_71 rfl rfl dX5_parts_157 ?_
        refine bw_aload_n 0 dX5_parts_160 rfl rfl ?_
        refine bw_gf bkX5 0 6 (by decide) fl_X5_25 rfl rfl dX5_parts_161 ?_
        refine bw_iload 4 dX5_parts_164 rfl ?_
        obtain ⟨h_33, hf⟩ := bw_chk hf
        refine bw_iald 2 rfl h_33 dX5_parts_166 ?_
        obtain ⟨h_34, hf⟩ := bw_chk hf
        refine bw_iast 3 ([(ah, .inr (5, [.ref ah_all, .ref ah_kept, .ref ah_history, .int vh_historyLong, .ref ah_slots, .ref ah_isSaved, .ref ah_words, .int vh_groups, .ref ah_left, .int vh_leftLong, .ref ah_seen, .ref ah_text, .int vh_textLong, .int vh_spot, .ref ah_signs, .ref ah_pauses, .int vh_read])), (ah_all, .inl (g.2.1, 120, .inl vh_all)), (ah_words, .inl (g.2.1, 24, .inl vh_words)), (ah_left, .inl (g.2.1, 24, .inl ((upd vh_left (Int32.toNatClampNeg vh_leftLong) ((vh_words (Int32.toNatClampNeg x4)))))))]) rfl h_34 rfl dX5_parts_167 ?_
        refine bw_aload_n 0 dX5_parts_168 rfl rfl ?_
        refine bw_dup dX5_parts_169 rfl ?_
        refine bw_gf bkX5 0 9 (by decide) fl_X5_71 rfl rfl dX5_parts_170 ?_
        refine bw_iconst 1 dX5_parts_173 (by decide) ?_
        refine bw_iadd dX5_parts_174 ?_
        refine bw_pf bkX5 0 9 ([(ah, .inr (5, [.ref ah_all, .ref ah_kept, .ref ah_history, .int vh_historyLong, .ref ah_slots, .ref ah_isSaved, .ref ah_words, .int vh_groups, .ref ah_left, .int ((vh_leftLong + 1)), .ref ah_seen, .ref ah_text, .int vh_textLong, .int vh_spot, .ref ah_signs, .ref ah_pauses, .int vh_read])), (ah_all, .inl (g.2.1, 120, .inl vh_all)), (ah_words, .inl (g.2.1, 24, .inl vh_words)), (ah_left, .inl (g.2.1, 24, .inl ((upd vh_left (Int32.toNatClampNeg vh_leftLong) ((vh_words (Int32.toNatClampNeg x4)))))))]) (by decide) fl_X5_71 rfl rfl rfl rfl rfl (Nat.le_of_ble_eq_true rfl) rfl dX5_parts_175 ?_
        refine bw_iinc 4 (x4 + 1) [(4, .int ((x4 + 1))), (0, .ref ah), (1, .int x1), (2, .int x2), (3, .int x3)] dX5_parts_178 rfl rfl (by decide) rfl ?_
        refine bw_goto 130 dX5_parts_181 (by decide) ?_
        refine bw_lv [1, 2, 3, 4, 0] rfl ?_
        exact ih vh_historyLong vh_groups ((vh_leftLong + 1)) vh_textLong vh_spot vh_read vh_all vh_words ((upd vh_left (Int32.toNatClampNeg vh_leftLong) ((vh_words (Int32.toNatClampNeg x4))))) x1 x2 x3 ((x4 + 1)) _ hf
def f_X5_parts_L12 : Nat → (Int32) → (Int32) → (Nat → Int32) → (Nat → Int32) → (Nat → Int32) → (Int32) → (Int32) → (Int32) → (Int32) → Option ((Int32) × (Int32) × (Nat → Int32) × (Nat → Int32))
  | 0, _, _, _, _, _, _, _, _, _ => none
  | fu + 1, vh_groups, vh_leftLong, vh_all, vh_words, vh_left, x1, x2, x3, x4 => (if bw_in 3 120 then (if (vh_all (Int32.toNatClampNeg 3)) ≤ x4 then (f_X5_parts_L130 bw_F vh_groups 0 vh_all vh_words vh_left x1 x2 x3 0) else (if (x2 + 1) ≤ 3 then ((f_X5_signSeen vh_all x4 x1).bind fun q_38 => ((f_X5_endsSeen vh_all x4 x1).bind fun q_39 => (if q_39 = 0 then (f_X5_parts_L12 fu vh_groups vh_leftLong vh_all vh_words vh_left x1 ((x2 + 1)) (((6 * x3) + q_38)) ((x4 + 1))) else (if (x2 + 1) = 1 then (if bw_in vh_groups 24 then (f_X5_parts_L12 fu ((vh_groups + 1)) vh_leftLong vh_all ((upd vh_words (Int32.toNatClampNeg vh_groups) (((6 * x3) + q_38)))) vh_left x1 0 0 ((x4 + 1))) else none) else (if (x2 + 1) = 2 then (if bw_in vh_groups 24 then (f_X5_parts_L12 fu ((vh_groups + 1)) vh_leftLong vh_all ((upd vh_words (Int32.toNatClampNeg vh_groups) ((6 + ((6 * x3) + q_38))))) vh_left x1 0 0 ((x4 + 1))) else none) else (if (x2 + 1) = 3 then (if bw_in vh_groups 24 then (f_X5_parts_L12 fu ((vh_groups + 1)) vh_leftLong vh_all ((upd vh_words (Int32.toNatClampNeg vh_groups) ((42 + ((6 * x3) + q_38))))) vh_left x1 0 0 ((x4 + 1))) else none) else (if bw_in vh_groups 24 then (f_X5_parts_L12 fu ((vh_groups + 1)) vh_leftLong vh_all ((upd vh_words (Int32.toNatClampNeg vh_groups) ((-1000006)))) vh_left x1 0 0 ((x4 + 1))) else none))))))) else ((f_X5_endsSeen vh_all x4 x1).bind fun q_48 => (if q_48 = 0 then (f_X5_parts_L12 fu vh_groups vh_leftLong vh_all vh_words vh_left x1 ((x2 + 1)) 0 ((x4 + 1))) else (if (x2 + 1) = 1 then (if bw_in vh_groups 24 then (f_X5_parts_L12 fu ((vh_groups + 1)) vh_leftLong vh_all ((upd vh_words (Int32.toNatClampNeg vh_groups) 0)) vh_left x1 0 0 ((x4 + 1))) else none) else (if (x2 + 1) = 2 then (if bw_in vh_groups 24 then (f_X5_parts_L12 fu ((vh_groups + 1)) vh_leftLong vh_all ((upd vh_words (Int32.toNatClampNeg vh_groups) ((6 + 0)))) vh_left x1 0 0 ((x4 + 1))) else none) else (if (x2 + 1) = 3 then (if bw_in vh_groups 24 then (f_X5_parts_L12 fu ((vh_groups + 1)) vh_leftLong vh_all ((upd vh_words (Int32.toNatClampNeg vh_groups) ((42 + 0)))) vh_left x1 0 0 ((x4 + 1))) else none) else (if bw_in vh_groups 24 then (f_X5_parts_L12 fu ((vh_groups + 1)) vh_leftLong vh_all ((upd vh_words (Int32.toNatClampNeg vh_groups) ((-1000006)))) vh_left x1 0 0 ((x4 + 1))) else none)))))))) else none)
set_option maxHeartbeats 4000000 in
set_option maxRecDepth 100000 in
theorem s_X5_parts_L12 (l : Launch) (g : bwG) (ah ah_all ah_kept ah_history ah_slots ah_isSaved ah_words ah_left ah_seen ah_text ah_signs ah_pauses : Nat) (fu : Nat) : ∀ (vh_historyLong : Int32) (vh_groups : Int32) (vh_leftLong : Int32) (vh_textLong : Int32) (vh_spot : Int32) (vh_read : Int32) (vh_all : Nat → Int32) (vh_words : Nat → Int32) (vh_left : Nat → Int32) (x1 : Int32) (x2 : Int32) (x3 : Int32) (x4 : Int32) (res : (Int32) × (Int32) × (Nat → Int32) × (Nat → Int32)), f_X5_parts_L12 fu vh_groups vh_leftLong vh_all vh_words vh_left x1 x2 x3 x4 = some res → bwR l g cX5_parts 5 RX5 "parts" none ({ frames := 1, cells := 0, slots := 0, locals := 23 } : Room) bwT (bwZ g (fun r w => r = none ∧ w = [(ah, .inr (5, [.ref ah_all, .ref ah_kept, .ref ah_history, .int vh_historyLong, .ref ah_slots, .ref ah_isSaved, .ref ah_words, .int res.1, .ref ah_left, .int res.2.1, .ref ah_seen, .ref ah_text, .int vh_textLong, .int vh_spot, .ref ah_signs, .ref ah_pauses, .int vh_read])), (ah_all, .inl (g.2.1, 120, .inl vh_all)), (ah_words, .inl (g.2.1, 24, .inl res.2.2.1)), (ah_left, .inl (g.2.1, 24, .inl res.2.2.2))]) 0 0) 12 [(0, .ref ah), (1, .int x1), (2, .int x2), (3, .int x3), (4, .int x4)] [] ([(ah, .inr (5, [.ref ah_all, .ref ah_kept, .ref ah_history, .int vh_historyLong, .ref ah_slots, .ref ah_isSaved, .ref ah_words, .int vh_groups, .ref ah_left, .int vh_leftLong, .ref ah_seen, .ref ah_text, .int vh_textLong, .int vh_spot, .ref ah_signs, .ref ah_pauses, .int vh_read])), (ah_all, .inl (g.2.1, 120, .inl vh_all)), (ah_words, .inl (g.2.1, 24, .inl vh_words)), (ah_left, .inl (g.2.1, 24, .inl vh_left))]) 0 0 := by
  induction fu with
  | zero => intro vh_historyLong vh_groups vh_leftLong vh_textLong vh_spot vh_read vh_all vh_words vh_left x1 x2 x3 x4 res hf; exact absurd hf (by intro h; cases h)
  | succ fu ih =>
    intro vh_historyLong vh_groups vh_leftLong vh_textLong vh_spot vh_read vh_all vh_words vh_left x1 x2 x3 x4 res hf
    rw [f_X5_parts_L12] at hf
    refine bw_iload 4 dX5_parts_12 rfl ?_
    refine bw_aload_n 0 dX5_parts_14 rfl rfl ?_
    refine bw_gf bkX5 0 0 (by decide) fl_X5_7 rfl rfl dX5_parts_15 ?_
    refine bw_iconst 3 dX5_parts_18 (by decide) ?_
    obtain ⟨h_35, hf⟩ := bw_chk hf
    refine bw_iald 1 rfl h_35 dX5_parts_19 ?_
    refine bw_icmp_ge 122 dX5_parts_20 (by decide) (fun c_36 => ?_) (fun c_36 => ?_)
    · have hf := bw_pos c_36 hf
      refine bw_aload_n 0 dX5_parts_122 rfl rfl ?_
      refine bw_iconst 0 dX5_parts_123 (by decide) ?_
      refine bw_pf bkX5 0 9 ([(ah, .inr (5, [.ref ah_all, .ref ah_kept, .ref ah_history, .int vh_historyLong, .ref ah_slots, .ref ah_isSaved, .ref ah_words, .int vh_groups, .ref ah_left, .int 0, .ref ah_seen, .ref ah_text, .int vh_textLong, .int vh_spot, .ref ah_signs, .ref ah_pauses, .int vh_read])), (ah_all, .inl (g.2.1, 120, .inl vh_all)), (ah_words, .inl (g.2.1, 24, .inl vh_words)), (ah_left, .inl (g.2.1, 24, .inl vh_left))]) (by decide) fl_X5_71 rfl rfl rfl rfl rfl (Nat.le_of_ble_eq_true rfl) rfl dX5_parts_124 ?_
      refine bw_iconst 0 dX5_parts_127 (by decide) ?_
      refine bw_istore [(4, .int 0), (0, .ref ah), (1, .int x1), (2, .int x2), (3, .int x3)] dX5_parts_128 (by decide) rfl ?_
      refine bw_lv [1, 2, 3, 4, 0] rfl ?_
      exact s_X5_parts_L130 l g ah ah_all ah_kept ah_history ah_slots ah_isSaved ah_words ah_left ah_seen ah_text ah_signs ah_pauses bw_F vh_historyLong vh_groups 0 vh_textLong vh_spot vh_read vh_all vh_words vh_left x1 x2 x3 0 _ hf
    · have hf := bw_neg c_36 hf
      refine bw_iinc 2 (x2 + 1) [(2, .int ((x2 + 1))), (0, .ref ah), (1, .int x1), (3, .int x3), (4, .int x4)] dX5_parts_23 rfl rfl (by decide) rfl ?_
      refine bw_iload_n 0 dX5_parts_26 rfl rfl ?_
      refine bw_iconst 3 dX5_parts_27 (by decide) ?_
      refine bw_icmp_le 35 dX5_parts_28 (by decide) (fun c_37 => ?_) (fun c_37 => ?_)
      · have hf := bw_pos c_37 hf
        refine bw_bipush 6 dX5_parts_35 (by decide) ?_
        refine bw_iload_n 3 dX5_parts_37 rfl rfl ?_
        refine bw_imul dX5_parts_38 ?_
        refine bw_aload_n 1 dX5_parts_39 rfl rfl ?_
        refine bw_iload 4 dX5_parts_40 rfl ?_
        refine bw_iload_n 2 dX5_parts_42 rfl rfl ?_
        obtain ⟨q_38, hc_38, hf⟩ := bw_bind hf
        refine bw_callV [.int x4, .int x1] [.int ((6 * x3))] [(ah_words, .inl (g.2.1, 24, .inl vh_words)), (ah_left, .inl (g.2.1, 24, .inl vh_left))] 0 5 (s_X5_signSeen l g ah ah_all ah_kept ah_history ah_slots ah_isSaved ah_words ah_left ah_seen ah_text ah_signs ah_pauses vh_historyLong vh_groups vh_leftLong vh_textLong vh_spot vh_read vh_all x4 x1 _ hc_38) rfl co_X5_signSeen ini_X5 ml_X5_62 im_X5_signSeen se_X5_signSeen ar_X5_signSeen ⟨Nat.le_of_ble_eq_true rfl, Nat.le_of_ble_eq_true rfl⟩ ⟨Nat.le_of_ble_eq_true rfl, Nat.le_of_ble_eq_true rfl⟩ rfl rfl (bw_pick1 4 [0, 1, 2, 3] rfl rfl (by decide)) (Nat.le_of_ble_eq_true rfl) dX5_parts_43 (fun r w1 hq => ?_)
        obtain ⟨rfl, rfl⟩ := hq
        refine bw_perm (ws1 := [(ah, .inr (5, [.ref ah_all, .ref ah_kept, .ref ah_history, .int vh_historyLong, .ref ah_slots, .ref ah_isSaved, .ref ah_words, .int vh_groups, .ref ah_left, .int vh_leftLong, .ref ah_seen, .ref ah_text, .int vh_textLong, .int vh_spot, .ref ah_signs, .ref ah_pauses, .int vh_read])), (ah_all, .inl (g.2.1, 120, .inl vh_all)), (ah_words, .inl (g.2.1, 24, .inl vh_words)), (ah_left, .inl (g.2.1, 24, .inl vh_left))]) (bw_pick1 4 [2, 3, 0, 1] rfl rfl (by decide)) ?_
        refine bw_st (st1 := [.int q_38, .int ((6 * x3))]) rfl ?_
        refine bw_iadd dX5_parts_46 ?_
        refine bw_istore_n [(3, .int (((6 * x3) + q_38))), (2, .int ((x2 + 1))), (0, .ref ah), (1, .int x1), (4, .int x4)] dX5_parts_47 rfl (by decide) rfl ?_
        refine bw_aload_n 2 dX5_parts_48 rfl rfl ?_
        refine bw_iload 4 dX5_parts_49 rfl ?_
        refine bw_iload_n 3 dX5_parts_51 rfl rfl ?_
        obtain ⟨q_39, hc_39, hf⟩ := bw_bind hf
        refine bw_callV [.int x4, .int x1] [] [(ah_words, .inl (g.2.1, 24, .inl vh_words)), (ah_left, .inl (g.2.1, 24, .inl vh_left))] 0 5 (s_X5_endsSeen l g ah ah_all ah_kept ah_history ah_slots ah_isSaved ah_words ah_left ah_seen ah_text ah_signs ah_pauses vh_historyLong vh_groups vh_leftLong vh_textLong vh_spot vh_read vh_all x4 x1 _ hc_39) rfl co_X5_endsSeen ini_X5 ml_X5_66 im_X5_endsSeen se_X5_endsSeen ar_X5_endsSeen ⟨Nat.le_of_ble_eq_true rfl, Nat.le_of_ble_eq_true rfl⟩ ⟨Nat.le_of_ble_eq_true rfl, Nat.le_of_ble_eq_true rfl⟩ rfl rfl (bw_pick1 4 [0, 1, 2, 3] rfl rfl (by decide)) (Nat.le_of_ble_eq_true rfl) dX5_parts_52 (fun r w1 hq => ?_)
        obtain ⟨rfl, rfl⟩ := hq
        refine bw_perm (ws1 := [(ah, .inr (5, [.ref ah_all, .ref ah_kept, .ref ah_history, .int vh_historyLong, .ref ah_slots, .ref ah_isSaved, .ref ah_words, .int vh_groups, .ref ah_left, .int vh_leftLong, .ref ah_seen, .ref ah_text, .int vh_textLong, .int vh_spot, .ref ah_signs, .ref ah_pauses, .int vh_read])), (ah_all, .inl (g.2.1, 120, .inl vh_all)), (ah_words, .inl (g.2.1, 24, .inl vh_words)), (ah_left, .inl (g.2.1, 24, .inl vh_left))]) (bw_pick1 4 [2, 3, 0, 1] rfl rfl (by decide)) ?_
        refine bw_st (st1 := [.int q_39]) rfl ?_
        refine bw_if_eq 116 dX5_parts_55 (by decide) (fun c_40 => ?_) (fun c_40 => ?_)
        · have hf := bw_pos c_40 hf
          refine bw_iinc 4 (x4 + 1) [(4, .int ((x4 + 1))), (3, .int (((6 * x3) + q_38))), (2, .int ((x2 + 1))), (0, .ref ah), (1, .int x1)] dX5_parts_116 rfl rfl (by decide) rfl ?_
          refine bw_goto 12 dX5_parts_119 (by decide) ?_
          refine bw_lv [3, 4, 2, 1, 0] rfl ?_
          exact ih vh_historyLong vh_groups vh_leftLong vh_textLong vh_spot vh_read vh_all vh_words vh_left x1 ((x2 + 1)) (((6 * x3) + q_38)) ((x4 + 1)) _ hf
        · have hf := bw_neg c_40 hf
          refine bw_aload_n 2 dX5_parts_58 rfl rfl ?_
          refine bw_gf bkX5 0 6 (by decide) fl_X5_25 rfl rfl dX5_parts_59 ?_
          refine bw_aload_n 2 dX5_parts_62 rfl rfl ?_
          refine bw_gf bkX5 0 7 (by decide) fl_X5_59 rfl rfl dX5_parts_63 ?_
          refine bw_iload_n 1 dX5_parts_66 rfl rfl ?_
          refine bw_iconst 1 dX5_parts_67 (by decide) ?_
          refine bw_icmp_ne 75 dX5_parts_68 (by decide) (fun c_41 => ?_) (fun c_41 => ?_)
          · have hf := bw_neg c_41 hf
            refine bw_iload_n 1 dX5_parts_75 rfl rfl ?_
            refine bw_iconst 2 dX5_parts_76 (by decide) ?_
            refine bw_icmp_ne 87 dX5_parts_77 (by decide) (fun c_42 => ?_) (fun c_42 => ?_)
            · have hf := bw_neg c_42 hf
              refine bw_iload_n 1 dX5_parts_87 rfl rfl ?_
              refine bw_iconst 3 dX5_parts_88 (by decide) ?_
              refine bw_icmp_ne 99 dX5_parts_89 (by decide) (fun c_43 => ?_) (fun c_43 => ?_)
              · have hf := bw_neg c_43 hf
                refine bw_ldc ct_X5_70 dX5_parts_99 ?_
                obtain ⟨h_44, hf⟩ := bw_chk hf
                refine bw_iast 2 ([(ah, .inr (5, [.ref ah_all, .ref ah_kept, .ref ah_history, .int vh_historyLong, .ref ah_slots, .ref ah_isSaved, .ref ah_words, .int vh_groups, .ref ah_left, .int vh_leftLong, .ref ah_seen, .ref ah_text, .int vh_textLong, .int vh_spot, .ref ah_signs, .ref ah_pauses, .int vh_read])), (ah_all, .inl (g.2.1, 120, .inl vh_all)), (ah_words, .inl (g.2.1, 24, .inl ((upd vh_words (Int32.toNatClampNeg vh_groups) ((-1000006)))))), (ah_left, .inl (g.2.1, 24, .inl vh_left))]) rfl h_44 rfl dX5_parts_101 ?_
                refine bw_aload_n 2 dX5_parts_102 rfl rfl ?_
                refine bw_dup dX5_parts_103 rfl ?_
                refine bw_gf bkX5 0 7 (by decide) fl_X5_59 rfl rfl dX5_parts_104 ?_
                refine bw_iconst 1 dX5_parts_107 (by decide) ?_
                refine bw_iadd dX5_parts_108 ?_
                refine bw_pf bkX5 0 7 ([(ah, .inr (5, [.ref ah_all, .ref ah_kept, .ref ah_history, .int vh_historyLong, .ref ah_slots, .ref ah_isSaved, .ref ah_words, .int ((vh_groups + 1)), .ref ah_left, .int vh_leftLong, .ref ah_seen, .ref ah_text, .int vh_textLong, .int vh_spot, .ref ah_signs, .ref ah_pauses, .int vh_read])), (ah_all, .inl (g.2.1, 120, .inl vh_all)), (ah_words, .inl (g.2.1, 24, .inl ((upd vh_words (Int32.toNatClampNeg vh_groups) ((-1000006)))))), (ah_left, .inl (g.2.1, 24, .inl vh_left))]) (by decide) fl_X5_59 rfl rfl rfl rfl rfl (Nat.le_of_ble_eq_true rfl) rfl dX5_parts_109 ?_
                refine bw_iconst 0 dX5_parts_112 (by decide) ?_
                refine bw_istore_n [(2, .int 0), (3, .int (((6 * x3) + q_38))), (0, .ref ah), (1, .int x1), (4, .int x4)] dX5_parts_113 rfl (by decide) rfl ?_
                refine bw_iconst 0 dX5_parts_114 (by decide) ?_
                refine bw_istore_n [(3, .int 0), (2, .int 0), (0, .ref ah), (1, .int x1), (4, .int x4)] dX5_parts_115 rfl (by decide) rfl ?_
                refine bw_iinc 4 (x4 + 1) [(4, .int ((x4 + 1))), (3, .int 0), (2, .int 0), (0, .ref ah), (1, .int x1)] dX5_parts_116 rfl rfl (by decide) rfl ?_
                refine bw_goto 12 dX5_parts_119 (by decide) ?_
                refine bw_lv [3, 4, 2, 1, 0] rfl ?_
                exact ih vh_historyLong ((vh_groups + 1)) vh_leftLong vh_textLong vh_spot vh_read vh_all ((upd vh_words (Int32.toNatClampNeg vh_groups) ((-1000006)))) vh_left x1 0 0 ((x4 + 1)) _ hf
              · have hf := bw_pos c_43 hf
                refine bw_bipush 42 dX5_parts_92 (by decide) ?_
                refine bw_iload_n 0 dX5_parts_94 rfl rfl ?_
                refine bw_iadd dX5_parts_95 ?_
                refine bw_goto 101 dX5_parts_96 (by decide) ?_
                obtain ⟨h_45, hf⟩ := bw_chk hf
                refine bw_iast 2 ([(ah, .inr (5, [.ref ah_all, .ref ah_kept, .ref ah_history, .int vh_historyLong, .ref ah_slots, .ref ah_isSaved, .ref ah_words, .int vh_groups, .ref ah_left, .int vh_leftLong, .ref ah_seen, .ref ah_text, .int vh_textLong, .int vh_spot, .ref ah_signs, .ref ah_pauses, .int vh_read])), (ah_all, .inl (g.2.1, 120, .inl vh_all)), (ah_words, .inl (g.2.1, 24, .inl ((upd vh_words (Int32.toNatClampNeg vh_groups) ((42 + ((6 * x3) + q_38))))))), (ah_left, .inl (g.2.1, 24, .inl vh_left))]) rfl h_45 rfl dX5_parts_101 ?_
                refine bw_aload_n 2 dX5_parts_102 rfl rfl ?_
                refine bw_dup dX5_parts_103 rfl ?_
                refine bw_gf bkX5 0 7 (by decide) fl_X5_59 rfl rfl dX5_parts_104 ?_
                refine bw_iconst 1 dX5_parts_107 (by decide) ?_
                refine bw_iadd dX5_parts_108 ?_
                refine bw_pf bkX5 0 7 ([(ah, .inr (5, [.ref ah_all, .ref ah_kept, .ref ah_history, .int vh_historyLong, .ref ah_slots, .ref ah_isSaved, .ref ah_words, .int ((vh_groups + 1)), .ref ah_left, .int vh_leftLong, .ref ah_seen, .ref ah_text, .int vh_textLong, .int vh_spot, .ref ah_signs, .ref ah_pauses, .int vh_read])), (ah_all, .inl (g.2.1, 120, .inl vh_all)), (ah_words, .inl (g.2.1, 24, .inl ((upd vh_words (Int32.toNatClampNeg vh_groups) ((42 + ((6 * x3) + q_38))))))), (ah_left, .inl (g.2.1, 24, .inl vh_left))]) (by decide) fl_X5_59 rfl rfl rfl rfl rfl (Nat.le_of_ble_eq_true rfl) rfl dX5_parts_109 ?_
                refine bw_iconst 0 dX5_parts_112 (by decide) ?_
                refine bw_istore_n [(2, .int 0), (3, .int (((6 * x3) + q_38))), (0, .ref ah), (1, .int x1), (4, .int x4)] dX5_parts_113 rfl (by decide) rfl ?_
                refine bw_iconst 0 dX5_parts_114 (by decide) ?_
                refine bw_istore_n [(3, .int 0), (2, .int 0), (0, .ref ah), (1, .int x1), (4, .int x4)] dX5_parts_115 rfl (by decide) rfl ?_
                refine bw_iinc 4 (x4 + 1) [(4, .int ((x4 + 1))), (3, .int 0), (2, .int 0), (0, .ref ah), (1, .int x1)] dX5_parts_116 rfl rfl (by decide) rfl ?_
                refine bw_goto 12 dX5_parts_119 (by decide) ?_
                refine bw_lv [3, 4, 2, 1, 0] rfl ?_
                exact ih vh_historyLong ((vh_groups + 1)) vh_leftLong vh_textLong vh_spot vh_read vh_all ((upd vh_words (Int32.toNatClampNeg vh_groups) ((42 + ((6 * x3) + q_38))))) vh_left x1 0 0 ((x4 + 1)) _ hf
            · have hf := bw_pos c_42 hf
              refine bw_bipush 6 dX5_parts_80 (by decide) ?_
              refine bw_iload_n 0 dX5_parts_82 rfl rfl ?_
              refine bw_iadd dX5_parts_83 ?_
              refine bw_goto 101 dX5_parts_84 (by decide) ?_
              obtain ⟨h_46, hf⟩ := bw_chk hf
              refine bw_iast 2 ([(ah, .inr (5, [.ref ah_all, .ref ah_kept, .ref ah_history, .int vh_historyLong, .ref ah_slots, .ref ah_isSaved, .ref ah_words, .int vh_groups, .ref ah_left, .int vh_leftLong, .ref ah_seen, .ref ah_text, .int vh_textLong, .int vh_spot, .ref ah_signs, .ref ah_pauses, .int vh_read])), (ah_all, .inl (g.2.1, 120, .inl vh_all)), (ah_words, .inl (g.2.1, 24, .inl ((upd vh_words (Int32.toNatClampNeg vh_groups) ((6 + ((6 * x3) + q_38))))))), (ah_left, .inl (g.2.1, 24, .inl vh_left))]) rfl h_46 rfl dX5_parts_101 ?_
              refine bw_aload_n 2 dX5_parts_102 rfl rfl ?_
              refine bw_dup dX5_parts_103 rfl ?_
              refine bw_gf bkX5 0 7 (by decide) fl_X5_59 rfl rfl dX5_parts_104 ?_
              refine bw_iconst 1 dX5_parts_107 (by decide) ?_
              refine bw_iadd dX5_parts_108 ?_
              refine bw_pf bkX5 0 7 ([(ah, .inr (5, [.ref ah_all, .ref ah_kept, .ref ah_history, .int vh_historyLong, .ref ah_slots, .ref ah_isSaved, .ref ah_words, .int ((vh_groups + 1)), .ref ah_left, .int vh_leftLong, .ref ah_seen, .ref ah_text, .int vh_textLong, .int vh_spot, .ref ah_signs, .ref ah_pauses, .int vh_read])), (ah_all, .inl (g.2.1, 120, .inl vh_all)), (ah_words, .inl (g.2.1, 24, .inl ((upd vh_words (Int32.toNatClampNeg vh_groups) ((6 + ((6 * x3) + q_38))))))), (ah_left, .inl (g.2.1, 24, .inl vh_left))]) (by decide) fl_X5_59 rfl rfl rfl rfl rfl (Nat.le_of_ble_eq_true rfl) rfl dX5_parts_109 ?_
              refine bw_iconst 0 dX5_parts_112 (by decide) ?_
              refine bw_istore_n [(2, .int 0), (3, .int (((6 * x3) + q_38))), (0, .ref ah), (1, .int x1), (4, .int x4)] dX5_parts_113 rfl (by decide) rfl ?_
              refine bw_iconst 0 dX5_parts_114 (by decide) ?_
              refine bw_istore_n [(3, .int 0), (2, .int 0), (0, .ref ah), (1, .int x1), (4, .int x4)] dX5_parts_115 rfl (by decide) rfl ?_
              refine bw_iinc 4 (x4 + 1) [(4, .int ((x4 + 1))), (3, .int 0), (2, .int 0), (0, .ref ah), (1, .int x1)] dX5_parts_116 rfl rfl (by decide) rfl ?_
              refine bw_goto 12 dX5_parts_119 (by decide) ?_
              refine bw_lv [3, 4, 2, 1, 0] rfl ?_
              exact ih vh_historyLong ((vh_groups + 1)) vh_leftLong vh_textLong vh_spot vh_read vh_all ((upd vh_words (Int32.toNatClampNeg vh_groups) ((6 + ((6 * x3) + q_38))))) vh_left x1 0 0 ((x4 + 1)) _ hf
          · have hf := bw_pos c_41 hf
            refine bw_iload_n 0 dX5_parts_71 rfl rfl ?_
            refine bw_goto 101 dX5_parts_72 (by decide) ?_
            obtain ⟨h_47, hf⟩ := bw_chk hf
            refine bw_iast 2 ([(ah, .inr (5, [.ref ah_all, .ref ah_kept, .ref ah_history, .int vh_historyLong, .ref ah_slots, .ref ah_isSaved, .ref ah_words, .int vh_groups, .ref ah_left, .int vh_leftLong, .ref ah_seen, .ref ah_text, .int vh_textLong, .int vh_spot, .ref ah_signs, .ref ah_pauses, .int vh_read])), (ah_all, .inl (g.2.1, 120, .inl vh_all)), (ah_words, .inl (g.2.1, 24, .inl ((upd vh_words (Int32.toNatClampNeg vh_groups) (((6 * x3) + q_38)))))), (ah_left, .inl (g.2.1, 24, .inl vh_left))]) rfl h_47 rfl dX5_parts_101 ?_
            refine bw_aload_n 2 dX5_parts_102 rfl rfl ?_
            refine bw_dup dX5_parts_103 rfl ?_
            refine bw_gf bkX5 0 7 (by decide) fl_X5_59 rfl rfl dX5_parts_104 ?_
            refine bw_iconst 1 dX5_parts_107 (by decide) ?_
            refine bw_iadd dX5_parts_108 ?_
            refine bw_pf bkX5 0 7 ([(ah, .inr (5, [.ref ah_all, .ref ah_kept, .ref ah_history, .int vh_historyLong, .ref ah_slots, .ref ah_isSaved, .ref ah_words, .int ((vh_groups + 1)), .ref ah_left, .int vh_leftLong, .ref ah_seen, .ref ah_text, .int vh_textLong, .int vh_spot, .ref ah_signs, .ref ah_pauses, .int vh_read])), (ah_all, .inl (g.2.1, 120, .inl vh_all)), (ah_words, .inl (g.2.1, 24, .inl ((upd vh_words (Int32.toNatClampNeg vh_groups) (((6 * x3) + q_38)))))), (ah_left, .inl (g.2.1, 24, .inl vh_left))]) (by decide) fl_X5_59 rfl rfl rfl rfl rfl (Nat.le_of_ble_eq_true rfl) rfl dX5_parts_109 ?_
            refine bw_iconst 0 dX5_parts_112 (by decide) ?_
            refine bw_istore_n [(2, .int 0), (3, .int (((6 * x3) + q_38))), (0, .ref ah), (1, .int x1), (4, .int x4)] dX5_parts_113 rfl (by decide) rfl ?_
            refine bw_iconst 0 dX5_parts_114 (by decide) ?_
            refine bw_istore_n [(3, .int 0), (2, .int 0), (0, .ref ah), (1, .int x1), (4, .int x4)] dX5_parts_115 rfl (by decide) rfl ?_
            refine bw_iinc 4 (x4 + 1) [(4, .int ((x4 + 1))), (3, .int 0), (2, .int 0), (0, .ref ah), (1, .int x1)] dX5_parts_116 rfl rfl (by decide) rfl ?_
            refine bw_goto 12 dX5_parts_119 (by decide) ?_
            refine bw_lv [3, 4, 2, 1, 0] rfl ?_
            exact ih vh_historyLong ((vh_groups + 1)) vh_leftLong vh_textLong vh_spot vh_read vh_all ((upd vh_words (Int32.toNatClampNeg vh_groups) (((6 * x3) + q_38)))) vh_left x1 0 0 ((x4 + 1)) _ hf
      · have hf := bw_neg c_37 hf
        refine bw_iconst 0 dX5_parts_31 (by decide) ?_
        refine bw_goto 47 dX5_parts_32 (by decide) ?_
        refine bw_istore_n [(3, .int 0), (2, .int ((x2 + 1))), (0, .ref ah), (1, .int x1), (4, .int x4)] dX5_parts_47 rfl (by decide) rfl ?_
        refine bw_aload_n 2 dX5_parts_48 rfl rfl ?_
        refine bw_iload 4 dX5_parts_49 rfl ?_
        refine bw_iload_n 3 dX5_parts_51 rfl rfl ?_
        obtain ⟨q_48, hc_48, hf⟩ := bw_bind hf
        refine bw_callV [.int x4, .int x1] [] [(ah_words, .inl (g.2.1, 24, .inl vh_words)), (ah_left, .inl (g.2.1, 24, .inl vh_left))] 0 5 (s_X5_endsSeen l g ah ah_all ah_kept ah_history ah_slots ah_isSaved ah_words ah_left ah_seen ah_text ah_signs ah_pauses vh_historyLong vh_groups vh_leftLong vh_textLong vh_spot vh_read vh_all x4 x1 _ hc_48) rfl co_X5_endsSeen ini_X5 ml_X5_66 im_X5_endsSeen se_X5_endsSeen ar_X5_endsSeen ⟨Nat.le_of_ble_eq_true rfl, Nat.le_of_ble_eq_true rfl⟩ ⟨Nat.le_of_ble_eq_true rfl, Nat.le_of_ble_eq_true rfl⟩ rfl rfl (bw_pick1 4 [0, 1, 2, 3] rfl rfl (by decide)) (Nat.le_of_ble_eq_true rfl) dX5_parts_52 (fun r w1 hq => ?_)
        obtain ⟨rfl, rfl⟩ := hq
        refine bw_perm (ws1 := [(ah, .inr (5, [.ref ah_all, .ref ah_kept, .ref ah_history, .int vh_historyLong, .ref ah_slots, .ref ah_isSaved, .ref ah_words, .int vh_groups, .ref ah_left, .int vh_leftLong, .ref ah_seen, .ref ah_text, .int vh_textLong, .int vh_spot, .ref ah_signs, .ref ah_pauses, .int vh_read])), (ah_all, .inl (g.2.1, 120, .inl vh_all)), (ah_words, .inl (g.2.1, 24, .inl vh_words)), (ah_left, .inl (g.2.1, 24, .inl vh_left))]) (bw_pick1 4 [2, 3, 0, 1] rfl rfl (by decide)) ?_
        refine bw_st (st1 := [.int q_48]) rfl ?_
        refine bw_if_eq 116 dX5_parts_55 (by decide) (fun c_49 => ?_) (fun c_49 => ?_)
        · have hf := bw_pos c_49 hf
          refine bw_iinc 4 (x4 + 1) [(4, .int ((x4 + 1))), (3, .int 0), (2, .int ((x2 + 1))), (0, .ref ah), (1, .int x1)] dX5_parts_116 rfl rfl (by decide) rfl ?_
          refine bw_goto 12 dX5_parts_119 (by decide) ?_
          refine bw_lv [3, 4, 2, 1, 0] rfl ?_
          exact ih vh_historyLong vh_groups vh_leftLong vh_textLong vh_spot vh_read vh_all vh_words vh_left x1 ((x2 + 1)) 0 ((x4 + 1)) _ hf
        · have hf := bw_neg c_49 hf
          refine bw_aload_n 2 dX5_parts_58 rfl rfl ?_
          refine bw_gf bkX5 0 6 (by decide) fl_X5_25 rfl rfl dX5_parts_59 ?_
          refine bw_aload_n 2 dX5_parts_62 rfl rfl ?_
          refine bw_gf bkX5 0 7 (by decide) fl_X5_59 rfl rfl dX5_parts_63 ?_
          refine bw_iload_n 1 dX5_parts_66 rfl rfl ?_
          refine bw_iconst 1 dX5_parts_67 (by decide) ?_
          refine bw_icmp_ne 75 dX5_parts_68 (by decide) (fun c_50 => ?_) (fun c_50 => ?_)
          · have hf := bw_neg c_50 hf
            refine bw_iload_n 1 dX5_parts_75 rfl rfl ?_
            refine bw_iconst 2 dX5_parts_76 (by decide) ?_
            refine bw_icmp_ne 87 dX5_parts_77 (by decide) (fun c_51 => ?_) (fun c_51 => ?_)
            · have hf := bw_neg c_51 hf
              refine bw_iload_n 1 dX5_parts_87 rfl rfl ?_
              refine bw_iconst 3 dX5_parts_88 (by decide) ?_
              refine bw_icmp_ne 99 dX5_parts_89 (by decide) (fun c_52 => ?_) (fun c_52 => ?_)
              · have hf := bw_neg c_52 hf
                refine bw_ldc ct_X5_70 dX5_parts_99 ?_
                obtain ⟨h_53, hf⟩ := bw_chk hf
                refine bw_iast 2 ([(ah, .inr (5, [.ref ah_all, .ref ah_kept, .ref ah_history, .int vh_historyLong, .ref ah_slots, .ref ah_isSaved, .ref ah_words, .int vh_groups, .ref ah_left, .int vh_leftLong, .ref ah_seen, .ref ah_text, .int vh_textLong, .int vh_spot, .ref ah_signs, .ref ah_pauses, .int vh_read])), (ah_all, .inl (g.2.1, 120, .inl vh_all)), (ah_words, .inl (g.2.1, 24, .inl ((upd vh_words (Int32.toNatClampNeg vh_groups) ((-1000006)))))), (ah_left, .inl (g.2.1, 24, .inl vh_left))]) rfl h_53 rfl dX5_parts_101 ?_
                refine bw_aload_n 2 dX5_parts_102 rfl rfl ?_
                refine bw_dup dX5_parts_103 rfl ?_
                refine bw_gf bkX5 0 7 (by decide) fl_X5_59 rfl rfl dX5_parts_104 ?_
                refine bw_iconst 1 dX5_parts_107 (by decide) ?_
                refine bw_iadd dX5_parts_108 ?_
                refine bw_pf bkX5 0 7 ([(ah, .inr (5, [.ref ah_all, .ref ah_kept, .ref ah_history, .int vh_historyLong, .ref ah_slots, .ref ah_isSaved, .ref ah_words, .int ((vh_groups + 1)), .ref ah_left, .int vh_leftLong, .ref ah_seen, .ref ah_text, .int vh_textLong, .int vh_spot, .ref ah_signs, .ref ah_pauses, .int vh_read])), (ah_all, .inl (g.2.1, 120, .inl vh_all)), (ah_words, .inl (g.2.1, 24, .inl ((upd vh_words (Int32.toNatClampNeg vh_groups) ((-1000006)))))), (ah_left, .inl (g.2.1, 24, .inl vh_left))]) (by decide) fl_X5_59 rfl rfl rfl rfl rfl (Nat.le_of_ble_eq_true rfl) rfl dX5_parts_109 ?_
                refine bw_iconst 0 dX5_parts_112 (by decide) ?_
                refine bw_istore_n [(2, .int 0), (3, .int 0), (0, .ref ah), (1, .int x1), (4, .int x4)] dX5_parts_113 rfl (by decide) rfl ?_
                refine bw_iconst 0 dX5_parts_114 (by decide) ?_
                refine bw_istore_n [(3, .int 0), (2, .int 0), (0, .ref ah), (1, .int x1), (4, .int x4)] dX5_parts_115 rfl (by decide) rfl ?_
                refine bw_iinc 4 (x4 + 1) [(4, .int ((x4 + 1))), (3, .int 0), (2, .int 0), (0, .ref ah), (1, .int x1)] dX5_parts_116 rfl rfl (by decide) rfl ?_
                refine bw_goto 12 dX5_parts_119 (by decide) ?_
                refine bw_lv [3, 4, 2, 1, 0] rfl ?_
                exact ih vh_historyLong ((vh_groups + 1)) vh_leftLong vh_textLong vh_spot vh_read vh_all ((upd vh_words (Int32.toNatClampNeg vh_groups) ((-1000006)))) vh_left x1 0 0 ((x4 + 1)) _ hf
              · have hf := bw_pos c_52 hf
                refine bw_bipush 42 dX5_parts_92 (by decide) ?_
                refine bw_iload_n 0 dX5_parts_94 rfl rfl ?_
                refine bw_iadd dX5_parts_95 ?_
                refine bw_goto 101 dX5_parts_96 (by decide) ?_
                obtain ⟨h_54, hf⟩ := bw_chk hf
                refine bw_iast 2 ([(ah, .inr (5, [.ref ah_all, .ref ah_kept, .ref ah_history, .int vh_historyLong, .ref ah_slots, .ref ah_isSaved, .ref ah_words, .int vh_groups, .ref ah_left, .int vh_leftLong, .ref ah_seen, .ref ah_text, .int vh_textLong, .int vh_spot, .ref ah_signs, .ref ah_pauses, .int vh_read])), (ah_all, .inl (g.2.1, 120, .inl vh_all)), (ah_words, .inl (g.2.1, 24, .inl ((upd vh_words (Int32.toNatClampNeg vh_groups) ((42 + 0)))))), (ah_left, .inl (g.2.1, 24, .inl vh_left))]) rfl h_54 rfl dX5_parts_101 ?_
                refine bw_aload_n 2 dX5_parts_102 rfl rfl ?_
                refine bw_dup dX5_parts_103 rfl ?_
                refine bw_gf bkX5 0 7 (by decide) fl_X5_59 rfl rfl dX5_parts_104 ?_
                refine bw_iconst 1 dX5_parts_107 (by decide) ?_
                refine bw_iadd dX5_parts_108 ?_
                refine bw_pf bkX5 0 7 ([(ah, .inr (5, [.ref ah_all, .ref ah_kept, .ref ah_history, .int vh_historyLong, .ref ah_slots, .ref ah_isSaved, .ref ah_words, .int ((vh_groups + 1)), .ref ah_left, .int vh_leftLong, .ref ah_seen, .ref ah_text, .int vh_textLong, .int vh_spot, .ref ah_signs, .ref ah_pauses, .int vh_read])), (ah_all, .inl (g.2.1, 120, .inl vh_all)), (ah_words, .inl (g.2.1, 24, .inl ((upd vh_words (Int32.toNatClampNeg vh_groups) ((42 + 0)))))), (ah_left, .inl (g.2.1, 24, .inl vh_left))]) (by decide) fl_X5_59 rfl rfl rfl rfl rfl (Nat.le_of_ble_eq_true rfl) rfl dX5_parts_109 ?_
                refine bw_iconst 0 dX5_parts_112 (by decide) ?_
                refine bw_istore_n [(2, .int 0), (3, .int 0), (0, .ref ah), (1, .int x1), (4, .int x4)] dX5_parts_113 rfl (by decide) rfl ?_
                refine bw_iconst 0 dX5_parts_114 (by decide) ?_
                refine bw_istore_n [(3, .int 0), (2, .int 0), (0, .ref ah), (1, .int x1), (4, .int x4)] dX5_parts_115 rfl (by decide) rfl ?_
                refine bw_iinc 4 (x4 + 1) [(4, .int ((x4 + 1))), (3, .int 0), (2, .int 0), (0, .ref ah), (1, .int x1)] dX5_parts_116 rfl rfl (by decide) rfl ?_
                refine bw_goto 12 dX5_parts_119 (by decide) ?_
                refine bw_lv [3, 4, 2, 1, 0] rfl ?_
                exact ih vh_historyLong ((vh_groups + 1)) vh_leftLong vh_textLong vh_spot vh_read vh_all ((upd vh_words (Int32.toNatClampNeg vh_groups) ((42 + 0)))) vh_left x1 0 0 ((x4 + 1)) _ hf
            · have hf := bw_pos c_51 hf
              refine bw_bipush 6 dX5_parts_80 (by decide) ?_
              refine bw_iload_n 0 dX5_parts_82 rfl rfl ?_
              refine bw_iadd dX5_parts_83 ?_
              refine bw_goto 101 dX5_parts_84 (by decide) ?_
              obtain ⟨h_55, hf⟩ := bw_chk hf
              refine bw_iast 2 ([(ah, .inr (5, [.ref ah_all, .ref ah_kept, .ref ah_history, .int vh_historyLong, .ref ah_slots, .ref ah_isSaved, .ref ah_words, .int vh_groups, .ref ah_left, .int vh_leftLong, .ref ah_seen, .ref ah_text, .int vh_textLong, .int vh_spot, .ref ah_signs, .ref ah_pauses, .int vh_read])), (ah_all, .inl (g.2.1, 120, .inl vh_all)), (ah_words, .inl (g.2.1, 24, .inl ((upd vh_words (Int32.toNatClampNeg vh_groups) ((6 + 0)))))), (ah_left, .inl (g.2.1, 24, .inl vh_left))]) rfl h_55 rfl dX5_parts_101 ?_
              refine bw_aload_n 2 dX5_parts_102 rfl rfl ?_
              refine bw_dup dX5_parts_103 rfl ?_
              refine bw_gf bkX5 0 7 (by decide) fl_X5_59 rfl rfl dX5_parts_104 ?_
              refine bw_iconst 1 dX5_parts_107 (by decide) ?_
              refine bw_iadd dX5_parts_108 ?_
              refine bw_pf bkX5 0 7 ([(ah, .inr (5, [.ref ah_all, .ref ah_kept, .ref ah_history, .int vh_historyLong, .ref ah_slots, .ref ah_isSaved, .ref ah_words, .int ((vh_groups + 1)), .ref ah_left, .int vh_leftLong, .ref ah_seen, .ref ah_text, .int vh_textLong, .int vh_spot, .ref ah_signs, .ref ah_pauses, .int vh_read])), (ah_all, .inl (g.2.1, 120, .inl vh_all)), (ah_words, .inl (g.2.1, 24, .inl ((upd vh_words (Int32.toNatClampNeg vh_groups) ((6 + 0)))))), (ah_left, .inl (g.2.1, 24, .inl vh_left))]) (by decide) fl_X5_59 rfl rfl rfl rfl rfl (Nat.le_of_ble_eq_true rfl) rfl dX5_parts_109 ?_
              refine bw_iconst 0 dX5_parts_112 (by decide) ?_
              refine bw_istore_n [(2, .int 0), (3, .int 0), (0, .ref ah), (1, .int x1), (4, .int x4)] dX5_parts_113 rfl (by decide) rfl ?_
              refine bw_iconst 0 dX5_parts_114 (by decide) ?_
              refine bw_istore_n [(3, .int 0), (2, .int 0), (0, .ref ah), (1, .int x1), (4, .int x4)] dX5_parts_115 rfl (by decide) rfl ?_
              refine bw_iinc 4 (x4 + 1) [(4, .int ((x4 + 1))), (3, .int 0), (2, .int 0), (0, .ref ah), (1, .int x1)] dX5_parts_116 rfl rfl (by decide) rfl ?_
              refine bw_goto 12 dX5_parts_119 (by decide) ?_
              refine bw_lv [3, 4, 2, 1, 0] rfl ?_
              exact ih vh_historyLong ((vh_groups + 1)) vh_leftLong vh_textLong vh_spot vh_read vh_all ((upd vh_words (Int32.toNatClampNeg vh_groups) ((6 + 0)))) vh_left x1 0 0 ((x4 + 1)) _ hf
          · have hf := bw_pos c_50 hf
            refine bw_iload_n 0 dX5_parts_71 rfl rfl ?_
            refine bw_goto 101 dX5_parts_72 (by decide) ?_
            obtain ⟨h_56, hf⟩ := bw_chk hf
            refine bw_iast 2 ([(ah, .inr (5, [.ref ah_all, .ref ah_kept, .ref ah_history, .int vh_historyLong, .ref ah_slots, .ref ah_isSaved, .ref ah_words, .int vh_groups, .ref ah_left, .int vh_leftLong, .ref ah_seen, .ref ah_text, .int vh_textLong, .int vh_spot, .ref ah_signs, .ref ah_pauses, .int vh_read])), (ah_all, .inl (g.2.1, 120, .inl vh_all)), (ah_words, .inl (g.2.1, 24, .inl ((upd vh_words (Int32.toNatClampNeg vh_groups) 0)))), (ah_left, .inl (g.2.1, 24, .inl vh_left))]) rfl h_56 rfl dX5_parts_101 ?_
            refine bw_aload_n 2 dX5_parts_102 rfl rfl ?_
            refine bw_dup dX5_parts_103 rfl ?_
            refine bw_gf bkX5 0 7 (by decide) fl_X5_59 rfl rfl dX5_parts_104 ?_
            refine bw_iconst 1 dX5_parts_107 (by decide) ?_
            refine bw_iadd dX5_parts_108 ?_
            refine bw_pf bkX5 0 7 ([(ah, .inr (5, [.ref ah_all, .ref ah_kept, .ref ah_history, .int vh_historyLong, .ref ah_slots, .ref ah_isSaved, .ref ah_words, .int ((vh_groups + 1)), .ref ah_left, .int vh_leftLong, .ref ah_seen, .ref ah_text, .int vh_textLong, .int vh_spot, .ref ah_signs, .ref ah_pauses, .int vh_read])), (ah_all, .inl (g.2.1, 120, .inl vh_all)), (ah_words, .inl (g.2.1, 24, .inl ((upd vh_words (Int32.toNatClampNeg vh_groups) 0)))), (ah_left, .inl (g.2.1, 24, .inl vh_left))]) (by decide) fl_X5_59 rfl rfl rfl rfl rfl (Nat.le_of_ble_eq_true rfl) rfl dX5_parts_109 ?_
            refine bw_iconst 0 dX5_parts_112 (by decide) ?_
            refine bw_istore_n [(2, .int 0), (3, .int 0), (0, .ref ah), (1, .int x1), (4, .int x4)] dX5_parts_113 rfl (by decide) rfl ?_
            refine bw_iconst 0 dX5_parts_114 (by decide) ?_
            refine bw_istore_n [(3, .int 0), (2, .int 0), (0, .ref ah), (1, .int x1), (4, .int x4)] dX5_parts_115 rfl (by decide) rfl ?_
            refine bw_iinc 4 (x4 + 1) [(4, .int ((x4 + 1))), (3, .int 0), (2, .int 0), (0, .ref ah), (1, .int x1)] dX5_parts_116 rfl rfl (by decide) rfl ?_
            refine bw_goto 12 dX5_parts_119 (by decide) ?_
            refine bw_lv [3, 4, 2, 1, 0] rfl ?_
            exact ih vh_historyLong ((vh_groups + 1)) vh_leftLong vh_textLong vh_spot vh_read vh_all ((upd vh_words (Int32.toNatClampNeg vh_groups) 0)) vh_left x1 0 0 ((x4 + 1)) _ hf
theorem ar_X5_parts : yX5_parts.cls ≠ "java/lang/invoke/MethodHandle" ∧ yX5_parts.cls ≠ "java/lang/invoke/VarHandle" ∧ (parseMethodDescriptor yX5_parts.desc).map (fun d => d.parameters.length) = some 1 := ⟨by decide, by decide, by decide +kernel⟩
def f_X5_parts (vh_groups : Int32) (vh_leftLong : Int32) (vh_all : Nat → Int32) (vh_words : Nat → Int32) (vh_left : Nat → Int32) (p0 : Int32) : Option ((Int32) × (Int32) × (Nat → Int32) × (Nat → Int32)) := (f_X5_parts_L12 bw_F 0 vh_leftLong vh_all vh_words vh_left p0 0 0 0)
set_option maxHeartbeats 4000000 in
set_option maxRecDepth 100000 in
theorem s_X5_parts (l : Launch) (g : bwG) (ah ah_all ah_kept ah_history ah_slots ah_isSaved ah_words ah_left ah_seen ah_text ah_signs ah_pauses : Nat) (vh_historyLong : Int32) (vh_groups : Int32) (vh_leftLong : Int32) (vh_textLong : Int32) (vh_spot : Int32) (vh_read : Int32) (vh_all : Nat → Int32) (vh_words : Nat → Int32) (vh_left : Nat → Int32) (p0 : Int32) (res : (Int32) × (Int32) × (Nat → Int32) × (Nat → Int32)) (hf : f_X5_parts vh_groups vh_leftLong vh_all vh_words vh_left p0 = some res) : bwS l g yX5_parts cX5_parts 5 none ({ frames := 1, cells := 0, slots := 0, locals := 23 } : Room) [.ref ah, .int p0] ([(ah, .inr (5, [.ref ah_all, .ref ah_kept, .ref ah_history, .int vh_historyLong, .ref ah_slots, .ref ah_isSaved, .ref ah_words, .int vh_groups, .ref ah_left, .int vh_leftLong, .ref ah_seen, .ref ah_text, .int vh_textLong, .int vh_spot, .ref ah_signs, .ref ah_pauses, .int vh_read])), (ah_all, .inl (g.2.1, 120, .inl vh_all)), (ah_words, .inl (g.2.1, 24, .inl vh_words)), (ah_left, .inl (g.2.1, 24, .inl vh_left))]) (fun r w => r = none ∧ w = [(ah, .inr (5, [.ref ah_all, .ref ah_kept, .ref ah_history, .int vh_historyLong, .ref ah_slots, .ref ah_isSaved, .ref ah_words, .int res.1, .ref ah_left, .int res.2.1, .ref ah_seen, .ref ah_text, .int vh_textLong, .int vh_spot, .ref ah_signs, .ref ah_pauses, .int vh_read])), (ah_all, .inl (g.2.1, 120, .inl vh_all)), (ah_words, .inl (g.2.1, 24, .inl res.2.2.1)), (ah_left, .inl (g.2.1, 24, .inl res.2.2.2))]) := by
  refine bwS_of (by decide) (Nat.le_of_ble_eq_true rfl) ?_
  unfold f_X5_parts at hf
  show bwR l g cX5_parts 5 RX5 "parts" none ({ frames := 1, cells := 0, slots := 0, locals := 23 } : Room) bwT (bwZ g (fun r w => r = none ∧ w = [(ah, .inr (5, [.ref ah_all, .ref ah_kept, .ref ah_history, .int vh_historyLong, .ref ah_slots, .ref ah_isSaved, .ref ah_words, .int res.1, .ref ah_left, .int res.2.1, .ref ah_seen, .ref ah_text, .int vh_textLong, .int vh_spot, .ref ah_signs, .ref ah_pauses, .int vh_read])), (ah_all, .inl (g.2.1, 120, .inl vh_all)), (ah_words, .inl (g.2.1, 24, .inl res.2.2.1)), (ah_left, .inl (g.2.1, 24, .inl res.2.2.2))]) 0 0) 0 [(0, .ref ah), (1, .int p0)] [] ([(ah, .inr (5, [.ref ah_all, .ref ah_kept, .ref ah_history, .int vh_historyLong, .ref ah_slots, .ref ah_isSaved, .ref ah_words, .int vh_groups, .ref ah_left, .int vh_leftLong, .ref ah_seen, .ref ah_text, .int vh_textLong, .int vh_spot, .ref ah_signs, .ref ah_pauses, .int vh_read])), (ah_all, .inl (g.2.1, 120, .inl vh_all)), (ah_words, .inl (g.2.1, 24, .inl vh_words)), (ah_left, .inl (g.2.1, 24, .inl vh_left))]) 0 0
  refine bw_aload_n 0 dX5_parts_0 rfl rfl ?_
  refine bw_iconst 0 dX5_parts_1 (by decide) ?_
  refine bw_pf bkX5 0 7 ([(ah, .inr (5, [.ref ah_all, .ref ah_kept, .ref ah_history, .int vh_historyLong, .ref ah_slots, .ref ah_isSaved, .ref ah_words, .int 0, .ref ah_left, .int vh_leftLong, .ref ah_seen, .ref ah_text, .int vh_textLong, .int vh_spot, .ref ah_signs, .ref ah_pauses, .int vh_read])), (ah_all, .inl (g.2.1, 120, .inl vh_all)), (ah_words, .inl (g.2.1, 24, .inl vh_words)), (ah_left, .inl (g.2.1, 24, .inl vh_left))]) (by decide) fl_X5_59 rfl rfl rfl rfl rfl (Nat.le_of_ble_eq_true rfl) rfl dX5_parts_2 ?_
  refine bw_iconst 0 dX5_parts_5 (by decide) ?_
  refine bw_istore_n [(2, .int 0), (0, .ref ah), (1, .int p0)] dX5_parts_6 rfl (by decide) rfl ?_
  refine bw_iconst 0 dX5_parts_7 (by decide) ?_
  refine bw_istore_n [(3, .int 0), (2, .int 0), (0, .ref ah), (1, .int p0)] dX5_parts_8 rfl (by decide) rfl ?_
  refine bw_iconst 0 dX5_parts_9 (by decide) ?_
  refine bw_istore [(4, .int 0), (3, .int 0), (2, .int 0), (0, .ref ah), (1, .int p0)] dX5_parts_10 (by decide) rfl ?_
  refine bw_lv [3, 4, 2, 1, 0] rfl ?_
  exact s_X5_parts_L12 l g ah ah_all ah_kept ah_history ah_slots ah_isSaved ah_words ah_left ah_seen ah_text ah_signs ah_pauses bw_F vh_historyLong 0 vh_leftLong vh_textLong vh_spot vh_read vh_all vh_words vh_left p0 0 0 0 _ hf
def f_X5_isTooLong_L4 : Nat → (Int32) → (Nat → Int32) → (Int32) → (Int32) → Option (Int32)
  | 0, _, _, _, _ => none
  | fu + 1, vh_groups, vh_words, x1, x2 => (if vh_groups ≤ x2 then (if bw_nb x1 then some x1 else none) else (if x1 = 0 then (if bw_in x2 24 then (if (vh_words (Int32.toNatClampNeg x2)) = (-1000006) then (f_X5_isTooLong_L4 fu vh_groups vh_words 1 ((x2 + 1))) else (f_X5_isTooLong_L4 fu vh_groups vh_words 0 ((x2 + 1)))) else none) else (f_X5_isTooLong_L4 fu vh_groups vh_words 1 ((x2 + 1)))))
set_option maxHeartbeats 4000000 in
set_option maxRecDepth 100000 in
theorem s_X5_isTooLong_L4 (l : Launch) (g : bwG) (ah ah_all ah_kept ah_history ah_slots ah_isSaved ah_words ah_left ah_seen ah_text ah_signs ah_pauses : Nat) (fu : Nat) : ∀ (vh_historyLong : Int32) (vh_groups : Int32) (vh_leftLong : Int32) (vh_textLong : Int32) (vh_spot : Int32) (vh_read : Int32) (vh_words : Nat → Int32) (x1 : Int32) (x2 : Int32) (res : Int32), f_X5_isTooLong_L4 fu vh_groups vh_words x1 x2 = some res → bwR l g cX5_isTooLong 3 RX5 "isTooLong" (some .boolean) ({ frames := 0, cells := 0, slots := 0, locals := 0 } : Room) bwT (bwZ g (fun r w => r = some (.int res) ∧ w = [(ah, .inr (5, [.ref ah_all, .ref ah_kept, .ref ah_history, .int vh_historyLong, .ref ah_slots, .ref ah_isSaved, .ref ah_words, .int vh_groups, .ref ah_left, .int vh_leftLong, .ref ah_seen, .ref ah_text, .int vh_textLong, .int vh_spot, .ref ah_signs, .ref ah_pauses, .int vh_read])), (ah_words, .inl (g.2.1, 24, .inl vh_words))]) 0 0) 4 [(0, .ref ah), (1, .int x1), (2, .int x2)] [] ([(ah, .inr (5, [.ref ah_all, .ref ah_kept, .ref ah_history, .int vh_historyLong, .ref ah_slots, .ref ah_isSaved, .ref ah_words, .int vh_groups, .ref ah_left, .int vh_leftLong, .ref ah_seen, .ref ah_text, .int vh_textLong, .int vh_spot, .ref ah_signs, .ref ah_pauses, .int vh_read])), (ah_words, .inl (g.2.1, 24, .inl vh_words))]) 0 0 := by
  induction fu with
  | zero => intro vh_historyLong vh_groups vh_leftLong vh_textLong vh_spot vh_read vh_words x1 x2 res hf; exact absurd hf (by intro h; cases h)
  | succ fu ih =>
    intro vh_historyLong vh_groups vh_leftLong vh_textLong vh_spot vh_read vh_words x1 x2 res hf
    rw [f_X5_isTooLong_L4] at hf
    refine bw_iload_n 2 dX5_isTooLong_4 rfl rfl ?_
    refine bw_aload_n 0 dX5_isTooLong_5 rfl rfl ?_
    refine bw_gf bkX5 0 7 (by decide) fl_X5_59 rfl rfl dX5_isTooLong_6 ?_
    refine bw_icmp_ge 39 dX5_isTooLong_9 (by decide) (fun c_6 => ?_) (fun c_6 => ?_)
    · have hf := bw_pos c_6 hf
      refine bw_iload_n 1 dX5_isTooLong_39 rfl rfl ?_
      obtain ⟨h_7, hf⟩ := bw_chk hf
      cases Option.some.inj hf
      exact bw_ret rfl (bw_nbp h_7) (Nat.le_of_ble_eq_true rfl) (Nat.le_of_ble_eq_true rfl) dX5_isTooLong_40 ⟨rfl, rfl⟩
    · have hf := bw_neg c_6 hf
      refine bw_iload_n 1 dX5_isTooLong_12 rfl rfl ?_
      refine bw_if_ne 27 dX5_isTooLong_13 (by decide) (fun c_8 => ?_) (fun c_8 => ?_)
      · have hf := bw_neg c_8 hf
        refine bw_iconst 1 dX5_isTooLong_27 (by decide) ?_
        refine bw_goto 32 dX5_isTooLong_28 (by decide) ?_
        refine bw_istore_n [(1, .int 1), (0, .ref ah), (2, .int x2)] dX5_isTooLong_32 rfl (by decide) rfl ?_
        refine bw_iinc 2 (x2 + 1) [(2, .int ((x2 + 1))), (1, .int 1), (0, .ref ah)] dX5_isTooLong_33 rfl rfl (by decide) rfl ?_
        refine bw_goto 4 dX5_isTooLong_36 (by decide) ?_
        refine bw_lv [2, 1, 0] rfl ?_
        exact ih vh_historyLong vh_groups vh_leftLong vh_textLong vh_spot vh_read vh_words 1 ((x2 + 1)) _ hf
      · have hf := bw_pos c_8 hf
        refine bw_aload_n 0 dX5_isTooLong_16 rfl rfl ?_
        refine bw_gf bkX5 0 6 (by decide) fl_X5_25 rfl rfl dX5_isTooLong_17 ?_
        refine bw_iload_n 2 dX5_isTooLong_20 rfl rfl ?_
        obtain ⟨h_9, hf⟩ := bw_chk hf
        refine bw_iald 1 rfl h_9 dX5_isTooLong_21 ?_
        refine bw_ldc ct_X5_70 dX5_isTooLong_22 ?_
        refine bw_icmp_ne 31 dX5_isTooLong_24 (by decide) (fun c_10 => ?_) (fun c_10 => ?_)
        · have hf := bw_neg c_10 hf
          refine bw_iconst 0 dX5_isTooLong_31 (by decide) ?_
          refine bw_istore_n [(1, .int 0), (0, .ref ah), (2, .int x2)] dX5_isTooLong_32 rfl (by decide) rfl ?_
          refine bw_iinc 2 (x2 + 1) [(2, .int ((x2 + 1))), (1, .int 0), (0, .ref ah)] dX5_isTooLong_33 rfl rfl (by decide) rfl ?_
          refine bw_goto 4 dX5_isTooLong_36 (by decide) ?_
          refine bw_lv [2, 1, 0] rfl ?_
          exact ih vh_historyLong vh_groups vh_leftLong vh_textLong vh_spot vh_read vh_words 0 ((x2 + 1)) _ hf
        · have hf := bw_pos c_10 hf
          refine bw_iconst 1 dX5_isTooLong_27 (by decide) ?_
          refine bw_goto 32 dX5_isTooLong_28 (by decide) ?_
          refine bw_istore_n [(1, .int 1), (0, .ref ah), (2, .int x2)] dX5_isTooLong_32 rfl (by decide) rfl ?_
          refine bw_iinc 2 (x2 + 1) [(2, .int ((x2 + 1))), (1, .int 1), (0, .ref ah)] dX5_isTooLong_33 rfl rfl (by decide) rfl ?_
          refine bw_goto 4 dX5_isTooLong_36 (by decide) ?_
          refine bw_lv [2, 1, 0] rfl ?_
          exact ih vh_historyLong vh_groups vh_leftLong vh_textLong vh_spot vh_read vh_words 1 ((x2 + 1)) _ hf
theorem ar_X5_isTooLong : yX5_isTooLong.cls ≠ "java/lang/invoke/MethodHandle" ∧ yX5_isTooLong.cls ≠ "java/lang/invoke/VarHandle" ∧ (parseMethodDescriptor yX5_isTooLong.desc).map (fun d => d.parameters.length) = some 0 := ⟨by decide, by decide, by decide +kernel⟩
def f_X5_isTooLong (vh_groups : Int32) (vh_words : Nat → Int32)  : Option (Int32) := (f_X5_isTooLong_L4 bw_F vh_groups vh_words 0 0)
set_option maxHeartbeats 4000000 in
set_option maxRecDepth 100000 in
theorem s_X5_isTooLong (l : Launch) (g : bwG) (ah ah_all ah_kept ah_history ah_slots ah_isSaved ah_words ah_left ah_seen ah_text ah_signs ah_pauses : Nat) (vh_historyLong : Int32) (vh_groups : Int32) (vh_leftLong : Int32) (vh_textLong : Int32) (vh_spot : Int32) (vh_read : Int32) (vh_words : Nat → Int32)  (res : Int32) (hf : f_X5_isTooLong vh_groups vh_words  = some res) : bwS l g yX5_isTooLong cX5_isTooLong 3 (some .boolean) ({ frames := 0, cells := 0, slots := 0, locals := 0 } : Room) [.ref ah] ([(ah, .inr (5, [.ref ah_all, .ref ah_kept, .ref ah_history, .int vh_historyLong, .ref ah_slots, .ref ah_isSaved, .ref ah_words, .int vh_groups, .ref ah_left, .int vh_leftLong, .ref ah_seen, .ref ah_text, .int vh_textLong, .int vh_spot, .ref ah_signs, .ref ah_pauses, .int vh_read])), (ah_words, .inl (g.2.1, 24, .inl vh_words))]) (fun r w => r = some (.int res) ∧ w = [(ah, .inr (5, [.ref ah_all, .ref ah_kept, .ref ah_history, .int vh_historyLong, .ref ah_slots, .ref ah_isSaved, .ref ah_words, .int vh_groups, .ref ah_left, .int vh_leftLong, .ref ah_seen, .ref ah_text, .int vh_textLong, .int vh_spot, .ref ah_signs, .ref ah_pauses, .int vh_read])), (ah_words, .inl (g.2.1, 24, .inl vh_words))]) := by
  refine bwS_of (by decide) (Nat.le_of_ble_eq_true rfl) ?_
  unfold f_X5_isTooLong at hf
  show bwR l g cX5_isTooLong 3 RX5 "isTooLong" (some .boolean) ({ frames := 0, cells := 0, slots := 0, locals := 0 } : Room) bwT (bwZ g (fun r w => r = some (.int res) ∧ w = [(ah, .inr (5, [.ref ah_all, .ref ah_kept, .ref ah_history, .int vh_historyLong, .ref ah_slots, .ref ah_isSaved, .ref ah_words, .int vh_groups, .ref ah_left, .int vh_leftLong, .ref ah_seen, .ref ah_text, .int vh_textLong, .int vh_spot, .ref ah_signs, .ref ah_pauses, .int vh_read])), (ah_words, .inl (g.2.1, 24, .inl vh_words))]) 0 0) 0 [(0, .ref ah)] [] ([(ah, .inr (5, [.ref ah_all, .ref ah_kept, .ref ah_history, .int vh_historyLong, .ref ah_slots, .ref ah_isSaved, .ref ah_words, .int vh_groups, .ref ah_left, .int vh_leftLong, .ref ah_seen, .ref ah_text, .int vh_textLong, .int vh_spot, .ref ah_signs, .ref ah_pauses, .int vh_read])), (ah_words, .inl (g.2.1, 24, .inl vh_words))]) 0 0
  refine bw_iconst 0 dX5_isTooLong_0 (by decide) ?_
  refine bw_istore_n [(1, .int 0), (0, .ref ah)] dX5_isTooLong_1 rfl (by decide) rfl ?_
  refine bw_iconst 0 dX5_isTooLong_2 (by decide) ?_
  refine bw_istore_n [(2, .int 0), (1, .int 0), (0, .ref ah)] dX5_isTooLong_3 rfl (by decide) rfl ?_
  refine bw_lv [2, 1, 0] rfl ?_
  exact s_X5_isTooLong_L4 l g ah ah_all ah_kept ah_history ah_slots ah_isSaved ah_words ah_left ah_seen ah_text ah_signs ah_pauses bw_F vh_historyLong vh_groups vh_leftLong vh_textLong vh_spot vh_read vh_words 0 0 _ hf
