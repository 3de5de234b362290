theorem ar_X5_in : yX5_in.cls ≠ "java/lang/invoke/MethodHandle" ∧ yX5_in.cls ≠ "java/lang/invoke/VarHandle" ∧ (parseMethodDescriptor yX5_in.desc).map (fun d => d.parameters.length) = some 3 := ⟨by decide, by decide, by decide +kernel⟩
def f_X5_in  (p0 : Int64) (p1 : Int64) (p2 : Int64) : Option (Int32) := (if (lg_cmp p0 p1) < 0 then some 0 else (if 0 < (lg_cmp p0 p2) then some 0 else some 1))
set_option maxHeartbeats 4000000 in
set_option maxRecDepth 100000 in
theorem s_X5_in (l : Launch) (g : bwG)   (p0 : Int64) (p1 : Int64) (p2 : Int64) (res : Int32) (hf : f_X5_in  p0 p1 p2 = some res) : bwS l g yX5_in cX5_in 6 (some .boolean) ({ frames := 0, cells := 0, slots := 0, locals := 0 } : Room) [.long p0, .long p1, .long p2] ([]) (fun r w => r = some (.int res) ∧ w = []) := by
  refine bwS_of (by decide) (Nat.le_of_ble_eq_true rfl) ?_
  unfold f_X5_in at hf
  show bwR l g cX5_in 6 RX5 "in" (some .boolean) ({ frames := 0, cells := 0, slots := 0, locals := 0 } : Room) bwT (bwZ g (fun r w => r = some (.int res) ∧ w = []) 0 0) 0 [(0, .long p0), (2, .long p1), (4, .long p2)] [] ([]) 0 0
  refine bw_lload_n 0 dX5_in_0 rfl rfl ?_
  refine bw_lload_n 1 dX5_in_1 rfl rfl ?_
  refine bw_lcmp dX5_in_2 ?_
  refine bw_if_lt 17 dX5_in_3 (by decide) (fun c_3 => ?_) (fun c_3 => ?_)
  · have hf := bw_pos c_3 hf
    refine bw_iconst 0 dX5_in_17 (by decide) ?_
    cases Option.some.inj hf
    exact bw_ret rfl rfl (Nat.le_of_ble_eq_true rfl) (Nat.le_of_ble_eq_true rfl) dX5_in_18 ⟨rfl, rfl⟩
  · have hf := bw_neg c_3 hf
    refine bw_lload_n 0 dX5_in_6 rfl rfl ?_
    refine bw_lload 2 dX5_in_7 rfl ?_
    refine bw_lcmp dX5_in_9 ?_
    refine bw_if_gt 17 dX5_in_10 (by decide) (fun c_4 => ?_) (fun c_4 => ?_)
    · have hf := bw_pos c_4 hf
      refine bw_iconst 0 dX5_in_17 (by decide) ?_
      cases Option.some.inj hf
      exact bw_ret rfl rfl (Nat.le_of_ble_eq_true rfl) (Nat.le_of_ble_eq_true rfl) dX5_in_18 ⟨rfl, rfl⟩
    · have hf := bw_neg c_4 hf
      refine bw_iconst 1 dX5_in_13 (by decide) ?_
      refine bw_goto 18 dX5_in_14 (by decide) ?_
      cases Option.some.inj hf
      exact bw_ret rfl rfl (Nat.le_of_ble_eq_true rfl) (Nat.le_of_ble_eq_true rfl) dX5_in_18 ⟨rfl, rfl⟩
def f_X5_changes_L51 : Nat → (Int32) → (Nat → Int32) → (Nat → Int32) → (Int32) → Option ((Int32) × (Nat → Int32))
  | 0, _, _, _, _ => none
  | fu + 1, vh_historyLong, vh_all, vh_history, x1 => (if 120 ≤ x1 then some ((vh_historyLong + 1), vh_history) else (if bw_in x1 120 then (if bw_in (((120 * vh_historyLong) + x1)) 720 then (f_X5_changes_L51 fu vh_historyLong vh_all ((upd vh_history (Int32.toNatClampNeg (((120 * vh_historyLong) + x1))) ((vh_all (Int32.toNatClampNeg x1))))) ((x1 + 1))) else none) else none))
set_option maxHeartbeats 4000000 in
set_option maxRecDepth 100000 in
theorem s_X5_changes_L51 (l : Launch) (g : bwG) (ah ah_all ah_kept ah_history ah_slots ah_isSaved ah_words ah_left ah_seen ah_text ah_signs ah_pauses : Nat) (fu : Nat) : ∀ (vh_historyLong : Int32) (vh_groups : Int32) (vh_leftLong : Int32) (vh_textLong : Int32) (vh_spot : Int32) (vh_read : Int32) (vh_all : Nat → Int32) (vh_history : Nat → Int32) (x1 : Int32) (res : (Int32) × (Nat → Int32)), f_X5_changes_L51 fu vh_historyLong vh_all vh_history x1 = some res → bwR l g cX5_changes 2 RX5 "changes" none ({ frames := 0, cells := 0, slots := 0, locals := 0 } : Room) bwT (bwZ g (fun r w => r = none ∧ w = [(ah, .inr (5, [.ref ah_all, .ref ah_kept, .ref ah_history, .int res.1, .ref ah_slots, .ref ah_isSaved, .ref ah_words, .int vh_groups, .ref ah_left, .int vh_leftLong, .ref ah_seen, .ref ah_text, .int vh_textLong, .int vh_spot, .ref ah_signs, .ref ah_pauses, .int vh_read])), (ah_all, .inl (g.2.1, 120, .inl vh_all)), (ah_history, .inl (g.2.1, 720, .inl res.2))]) 0 0) 51 [(0, .ref ah), (1, .int x1)] [] ([(ah, .inr (5, [.ref ah_all, .ref ah_kept, .ref ah_history, .int vh_historyLong, .ref ah_slots, .ref ah_isSaved, .ref ah_words, .int vh_groups, .ref ah_left, .int vh_leftLong, .ref ah_seen, .ref ah_text, .int vh_textLong, .int vh_spot, .ref ah_signs, .ref ah_pauses, .int vh_read])), (ah_all, .inl (g.2.1, 120, .inl vh_all)), (ah_history, .inl (g.2.1, 720, .inl vh_history))]) 0 0 := by
  induction fu with
  | zero => intro vh_historyLong vh_groups vh_leftLong vh_textLong vh_spot vh_read vh_all vh_history x1 res hf; exact absurd hf (by intro h; cases h)
  | succ fu ih =>
    intro vh_historyLong vh_groups vh_leftLong vh_textLong vh_spot vh_read vh_all vh_history x1 res hf
    rw [f_X5_changes_L51] at hf
    refine bw_iload_n 1 dX5_changes_51 rfl rfl ?_
    refine bw_bipush 120 dX5_changes_52 (by decide) ?_
    refine bw_icmp_ge 83 dX5_changes_54 (by decide) (fun c_8 => ?_) (fun c_8 => ?_)
    · have hf := bw_pos c_8 hf
      refine bw_aload_n 0 dX5_changes_83 rfl rfl ?_
      refine bw_dup dX5_changes_84 rfl ?_
      refine bw_gf bkX5 0 3 (by decide) fl_X5_43 rfl rfl dX5_changes_85 ?_
      refine bw_iconst 1 dX5_changes_88 (by decide) ?_
      refine bw_iadd dX5_changes_89 ?_
      refine bw_pf bkX5 0 3 ([(ah, .inr (5, [.ref ah_all, .ref ah_kept, .ref ah_history, .int ((vh_historyLong + 1)), .ref ah_slots, .ref ah_isSaved, .ref ah_words, .int vh_groups, .ref ah_left, .int vh_leftLong, .ref ah_seen, .ref ah_text, .int vh_textLong, .int vh_spot, .ref ah_signs, .ref ah_pauses, .int vh_read])), (ah_all, .inl (g.2.1, 120, .inl vh_all)), (ah_history, .inl (g.2.1, 720, .inl vh_history))]) (by decide) fl_X5_43 rfl rfl rfl rfl rfl (Nat.le_of_ble_eq_true rfl) rfl dX5_changes_90 ?_
      cases Option.some.inj hf
      exact bw_vret rfl (Nat.le_of_ble_eq_true rfl) (Nat.le_of_ble_eq_true rfl) dX5_changes_93 ⟨rfl, rfl⟩
    · have hf := bw_neg c_8 hf
      refine bw_aload_n 0 dX5_changes_57 rfl rfl ?_
      refine bw_gf bkX5 0 2 (by decide) fl_X5_16 rfl rfl dX5_changes_58 ?_
      refine bw_bipush 120 dX5_changes_61 (by decide) ?_
      refine bw_aload_n 0 dX5_changes_63 rfl rfl ?_
      refine bw_gf bkX5 0 3 (by decide) fl_X5_43 rfl rfl dX5_changes_64 ?_
      refine bw_imul dX5_changes_67 ?_
      refine bw_iload_n 1 dX5_changes_68 rfl rfl ?_
      refine bw_iadd dX5_changes_69 ?_
      refine bw_aload_n 0 dX5_changes_70 rfl rfl ?_
      refine bw_gf bkX5 0 0 (by decide) fl_X5_7 rfl rfl dX5_changes_71 ?_
      refine bw_iload_n 1 dX5_changes_74 rfl rfl ?_
      obtain ⟨h_9, hf⟩ := bw_chk hf
      refine bw_iald 1 rfl h_9 dX5_changes_75 ?_
      obtain ⟨h_10, hf⟩ := bw_chk hf
      refine bw_iast 2 ([(ah, .inr (5, [.ref ah_all, .ref ah_kept, .ref ah_history, .int vh_historyLong, .ref ah_slots, .ref ah_isSaved, .ref ah_words, .int vh_groups, .ref ah_left, .int vh_leftLong, .ref ah_seen, .ref ah_text, .int vh_textLong, .int vh_spot, .ref ah_signs, .ref ah_pauses, .int vh_read])), (ah_all, .inl (g.2.1, 120, .inl vh_all)), (ah_history, .inl (g.2.1, 720, .inl ((upd vh_history (Int32.toNatClampNeg (((120 * vh_historyLong) + x1))) ((vh_all (Int32.toNatClampNeg x1)))))))]) rfl h_10 rfl dX5_changes_76 ?_
      refine bw_iinc 1 (x1 + 1) [(1, .int ((x1 + 1))), (0, .ref ah)] dX5_changes_77 rfl rfl (by decide) rfl ?_
      refine bw_goto 51 dX5_changes_80 (by decide) ?_
      refine bw_lv [1, 0] rfl ?_
      exact ih vh_historyLong vh_groups vh_leftLong vh_textLong vh_spot vh_read vh_all ((upd vh_history (Int32.toNatClampNeg (((120 * vh_historyLong) + x1))) ((vh_all (Int32.toNatClampNeg x1))))) ((x1 + 1)) _ hf
def f_X5_changes_L11 : Nat → (Int32) → (Nat → Int32) → (Nat → Int32) → (Int32) → Option ((Int32) × (Nat → Int32))
  | 0, _, _, _, _ => none
  | fu + 1, vh_historyLong, vh_all, vh_history, x1 => (if 600 ≤ x1 then (f_X5_changes_L51 bw_F ((vh_historyLong - 1)) vh_all vh_history 0) else (if bw_in ((x1 + 120)) 720 then (if bw_in x1 720 then (f_X5_changes_L11 fu vh_historyLong vh_all ((upd vh_history (Int32.toNatClampNeg x1) ((vh_history (Int32.toNatClampNeg ((x1 + 120))))))) ((x1 + 1))) else none) else none))
set_option maxHeartbeats 4000000 in
set_option maxRecDepth 100000 in
theorem s_X5_changes_L11 (l : Launch) (g : bwG) (ah ah_all ah_kept ah_history ah_slots ah_isSaved ah_words ah_left ah_seen ah_text ah_signs ah_pauses : Nat) (fu : Nat) : ∀ (vh_historyLong : Int32) (vh_groups : Int32) (vh_leftLong : Int32) (vh_textLong : Int32) (vh_spot : Int32) (vh_read : Int32) (vh_all : Nat → Int32) (vh_history : Nat → Int32) (x1 : Int32) (res : (Int32) × (Nat → Int32)), f_X5_changes_L11 fu vh_historyLong vh_all vh_history x1 = some res → bwR l g cX5_changes 2 RX5 "changes" none ({ frames := 0, cells := 0, slots := 0, locals := 0 } : Room) bwT (bwZ g (fun r w => r = none ∧ w = [(ah, .inr (5, [.ref ah_all, .ref ah_kept, .ref ah_history, .int res.1, .ref ah_slots, .ref ah_isSaved, .ref ah_words, .int vh_groups, .ref ah_left, .int vh_leftLong, .ref ah_seen, .ref ah_text, .int vh_textLong, .int vh_spot, .ref ah_signs, .ref ah_pauses, .int vh_read])), (ah_all, .inl (g.2.1, 120, .inl vh_all)), (ah_history, .inl (g.2.1, 720, .inl res.2))]) 0 0) 11 [(0, .ref ah), (1, .int x1)] [] ([(ah, .inr (5, [.ref ah_all, .ref ah_kept, .ref ah_history, .int vh_historyLong, .ref ah_slots, .ref ah_isSaved, .ref ah_words, .int vh_groups, .ref ah_left, .int vh_leftLong, .ref ah_seen, .ref ah_text, .int vh_textLong, .int vh_spot, .ref ah_signs, .ref ah_pauses, .int vh_read])), (ah_all, .inl (g.2.1, 120, .inl vh_all)), (ah_history, .inl (g.2.1, 720, .inl vh_history))]) 0 0 := by
  induction fu with
  | zero => intro vh_historyLong vh_groups vh_leftLong vh_textLong vh_spot vh_read vh_all vh_history x1 res hf; exact absurd hf (by intro h; cases h)
  | succ fu ih =>
    intro vh_historyLong vh_groups vh_leftLong vh_textLong vh_spot vh_read vh_all vh_history x1 res hf
    rw [f_X5_changes_L11] at hf
    refine bw_iload_n 1 dX5_changes_11 rfl rfl ?_
    refine bw_sipush 600 dX5_changes_12 (by decide) ?_
    refine bw_icmp_ge 39 dX5_changes_15 (by decide) (fun c_11 => ?_) (fun c_11 => ?_)
    · have hf := bw_pos c_11 hf
      refine bw_aload_n 0 dX5_changes_39 rfl rfl ?_
      refine bw_dup dX5_changes_40 rfl ?_
      refine bw_gf bkX5 0 3 (by decide) fl_X5_43 rfl rfl dX5_changes_41 ?_
      refine bw_iconst 1 dX5_changes_44 (by decide) ?_
      refine bw_isub dX5_changes_45 ?_
      refine bw_pf bkX5 0 3 ([(ah, .inr (5, [.ref ah_all, .ref ah_kept, .ref ah_history, .int ((vh_historyLong - 1)), .ref ah_slots, .ref ah_isSaved, .ref ah_words, .int vh_groups, .ref ah_left, .int vh_leftLong, .ref ah_seen, .ref ah_text, .int vh_textLong, .int vh_spot, .ref ah_signs, .ref ah_pauses, .int vh_read])), (ah_all, .inl (g.2.1, 120, .inl vh_all)), (ah_history, .inl (g.2.1, 720, .inl vh_history))]) (by decide) fl_X5_43 rfl rfl rfl rfl rfl (Nat.le_of_ble_eq_true rfl) rfl dX5_changes_46 ?_
      refine bw_iconst 0 dX5_changes_49 (by decide) ?_
      refine bw_istore_n [(1, .int 0), (0, .ref ah)] dX5_changes_50 rfl (by decide) rfl ?_
      refine bw_lv [1, 0] rfl ?_
      exact s_X5_changes_L51 l g ah ah_all ah_kept ah_history ah_slots ah_isSaved ah_words ah_left ah_seen ah_text ah_signs ah_pauses bw_F ((vh_historyLong - 1)) vh_groups vh_leftLong vh_textLong vh_spot vh_read vh_all vh_history 0 _ hf
    · have hf := bw_neg c_11 hf
      refine bw_aload_n 0 dX5_changes_18 rfl rfl ?_
      refine bw_gf bkX5 0 2 (by decide) fl_X5_16 rfl rfl dX5_changes_19 ?_
      refine bw_iload_n 1 dX5_changes_22 rfl rfl ?_
      refine bw_aload_n 0 dX5_changes_23 rfl rfl ?_
      refine bw_gf bkX5 0 2 (by decide) fl_X5_16 rfl rfl dX5_changes_24 ?_
      refine bw_iload_n 1 dX5_changes_27 rfl rfl ?_
      refine bw_bipush 120 dX5_changes_28 (by decide) ?_
      refine bw_iadd dX5_changes_30 ?_
      obtain ⟨h_12, hf⟩ := bw_chk hf
      refine bw_iald 2 rfl h_12 dX5_changes_31 ?_
      obtain ⟨h_13, hf⟩ := bw_chk hf
      refine bw_iast 2 ([(ah, .inr (5, [.ref ah_all, .ref ah_kept, .ref ah_history, .int vh_historyLong, .ref ah_slots, .ref ah_isSaved, .ref ah_words, .int vh_groups, .ref ah_left, .int vh_leftLong, .ref ah_seen, .ref ah_text, .int vh_textLong, .int vh_spot, .ref ah_signs, .ref ah_pauses, .int vh_read])), (ah_all, .inl (g.2.1, 120, .inl vh_all)), (ah_history, .inl (g.2.1, 720, .inl ((upd vh_history (Int32.toNatClampNeg x1) ((vh_history (Int32.toNatClampNeg ((x1 + 120)))))))))]) rfl h_13 rfl dX5_changes_32 ?_
      refine bw_iinc 1 (x1 + 1) [(1, .int ((x1 + 1))), (0, .ref ah)] dX5_changes_33 rfl rfl (by decide) rfl ?_
      refine bw_goto 11 dX5_changes_36 (by decide) ?_
      refine bw_lv [1, 0] rfl ?_
      exact ih vh_historyLong vh_groups vh_leftLong vh_textLong vh_spot vh_read vh_all ((upd vh_history (Int32.toNatClampNeg x1) ((vh_history (Int32.toNatClampNeg ((x1 + 120))))))) ((x1 + 1)) _ hf
theorem ar_X5_changes : yX5_changes.cls ≠ "java/lang/invoke/MethodHandle" ∧ yX5_changes.cls ≠ "java/lang/invoke/VarHandle" ∧ (parseMethodDescriptor yX5_changes.desc).map (fun d => d.parameters.length) = some 0 := ⟨by decide, by decide, by decide +kernel⟩
def f_X5_changes (vh_historyLong : Int32) (vh_all : Nat → Int32) (vh_history : Nat → Int32)  : Option ((Int32) × (Nat → Int32)) := (if vh_historyLong = 6 then (f_X5_changes_L11 bw_F vh_historyLong vh_all vh_history 0) else (f_X5_changes_L51 bw_F vh_historyLong vh_all vh_history 0))
set_option maxHeartbeats 4000000 in
set_option maxRecDepth 100000 in
theorem s_X5_changes (l : Launch) (g : bwG) (ah ah_all ah_kept ah_history ah_slots ah_isSaved ah_words ah_left ah_seen ah_text ah_signs ah_pauses : Nat) (vh_historyLong : Int32) (vh_groups : Int32) (vh_leftLong : Int32) (vh_textLong : Int32) (vh_spot : Int32) (vh_read : Int32) (vh_all : Nat → Int32) (vh_history : Nat → Int32)  (res : (Int32) × (Nat → Int32)) (hf : f_X5_changes vh_historyLong vh_all vh_history  = some res) : bwS l g yX5_changes cX5_changes 2 none ({ frames := 0, cells := 0, slots := 0, locals := 0 } : Room) [.ref ah] ([(ah, .inr (5, [.ref ah_all, .ref ah_kept, .ref ah_history, .int vh_historyLong, .ref ah_slots, .ref ah_isSaved, .ref ah_words, .int vh_groups, .ref ah_left, .int vh_leftLong, .ref ah_seen, .ref ah_text, .int vh_textLong, .int vh_spot, .ref ah_signs, .ref ah_pauses, .int vh_read])), (ah_all, .inl (g.2.1, 120, .inl vh_all)), (ah_history, .inl (g.2.1, 720, .inl vh_history))]) (fun r w => r = none ∧ w = [(ah, .inr (5, [.ref ah_all, .ref ah_kept, .ref ah_history, .int res.1, .ref ah_slots, .ref ah_isSaved, .ref ah_words, .int vh_groups, .ref ah_left, .int vh_leftLong, .ref ah_seen, .ref ah_text, .int vh_textLong, .int vh_spot, .ref ah_signs, .ref ah_pauses, .int vh_read])), (ah_all, .inl (g.2.1, 120, .inl vh_all)), (ah_history, .inl (g.2.1, 720, .inl res.2))]) := by
  refine bwS_of (by decide) (Nat.le_of_ble_eq_true rfl) ?_
  unfold f_X5_changes at hf
  show bwR l g cX5_changes 2 RX5 "changes" none ({ frames := 0, cells := 0, slots := 0, locals := 0 } : Room) bwT (bwZ g (fun r w => r = none ∧ w = [(ah, .inr (5, [.ref ah_all, .ref ah_kept, .ref ah_history, .int res.1, .ref ah_slots, .ref ah_isSaved, .ref ah_words, .int vh_groups, .ref ah_left, .int vh_leftLong, .ref ah_seen, .ref ah_text, .int vh_textLong, .int vh_spot, .ref ah_signs, .ref ah_pauses, .int vh_read])), (ah_all, .inl (g.2.1, 120, .inl vh_all)), (ah_history, .inl (g.2.1, 720, .inl res.2))]) 0 0) 0 [(0, .ref ah)] [] ([(ah, .inr (5, [.ref ah_all, .ref ah_kept, .ref ah_history, .int vh_historyLong, .ref ah_slots, .ref ah_isSaved, .ref ah_words, .int vh_groups, .ref ah_left, .int vh_leftLong, .ref ah_seen, .ref ah_text, .int vh_textLong, .int vh_spot, .ref ah_signs, .ref ah_pauses, .int vh_read])), (ah_all, .inl (g.2.1, 120, .inl vh_all)), (ah_history, .inl (g.2.1, 720, .inl vh_history))]) 0 0
  refine bw_aload_n 0 dX5_changes_0 rfl rfl ?_
  refine bw_gf bkX5 0 3 (by decide) fl_X5_43 rfl rfl dX5_changes_1 ?_
  refine bw_bipush 6 dX5_changes_4 (by decide) ?_
  refine bw_icmp_ne 49 dX5_changes_6 (by decide) (fun c_14 => ?_) (fun c_14 => ?_)
  · have hf := bw_neg c_14 hf
    refine bw_iconst 0 dX5_changes_49 (by decide) ?_
    refine bw_istore_n [(1, .int 0), (0, .ref ah)] dX5_changes_50 rfl (by decide) rfl ?_
    refine bw_lv [1, 0] rfl ?_
    exact s_X5_changes_L51 l g ah ah_all ah_kept ah_history ah_slots ah_isSaved ah_words ah_left ah_seen ah_text ah_signs ah_pauses bw_F vh_historyLong vh_groups vh_leftLong vh_textLong vh_spot vh_read vh_all vh_history 0 _ hf
  · have hf := bw_pos c_14 hf
    refine bw_iconst 0 dX5_changes_9 (by decide) ?_
    refine bw_istore_n [(1, .int 0), (0, .ref ah)] dX5_changes_10 rfl (by decide) rfl ?_
    refine bw_lv [1, 0] rfl ?_
    exact s_X5_changes_L11 l g ah ah_all ah_kept ah_history ah_slots ah_isSaved ah_words ah_left ah_seen ah_text ah_signs ah_pauses bw_F vh_historyLong vh_groups vh_leftLong vh_textLong vh_spot vh_read vh_all vh_history 0 _ hf
def f_X5_keeps_L2 : Nat → (Nat → Int32) → (Nat → Int32) → (Int32) → Option ((Nat → Int32))
  | 0, _, _, _ => none
  | fu + 1, vh_all, vh_kept, x1 => (if 120 ≤ x1 then some vh_kept else (if bw_in x1 120 then (if bw_in x1 120 then (f_X5_keeps_L2 fu vh_all ((upd vh_kept (Int32.toNatClampNeg x1) ((vh_all (Int32.toNatClampNeg x1))))) ((x1 + 1))) else none) else none))
set_option maxHeartbeats 4000000 in
set_option maxRecDepth 100000 in
theorem s_X5_keeps_L2 (l : Launch) (g : bwG) (ah ah_all ah_kept ah_history ah_slots ah_isSaved ah_words ah_left ah_seen ah_text ah_signs ah_pauses : Nat) (fu : Nat) : ∀ (vh_historyLong : Int32) (vh_groups : Int32) (vh_leftLong : Int32) (vh_textLong : Int32) (vh_spot : Int32) (vh_read : Int32) (vh_all : Nat → Int32) (vh_kept : Nat → Int32) (x1 : Int32) (res : (Nat → Int32)), f_X5_keeps_L2 fu vh_all vh_kept x1 = some res → bwR l g cX5_keeps 2 RX5 "keeps" none ({ frames := 0, cells := 0, slots := 0, locals := 0 } : Room) bwT (bwZ g (fun r w => r = none ∧ w = [(ah, .inr (5, [.ref ah_all, .ref ah_kept, .ref ah_history, .int vh_historyLong, .ref ah_slots, .ref ah_isSaved, .ref ah_words, .int vh_groups, .ref ah_left, .int vh_leftLong, .ref ah_seen, .ref ah_text, .int vh_textLong, .int vh_spot, .ref ah_signs, .ref ah_pauses, .int vh_read])), (ah_all, .inl (g.2.1, 120, .inl vh_all)), (ah_kept, .inl (g.2.1, 120, .inl res))]) 0 0) 2 [(0, .ref ah), (1, .int x1)] [] ([(ah, .inr (5, [.ref ah_all, .ref ah_kept, .ref ah_history, .int vh_historyLong, .ref ah_slots, .ref ah_isSaved, .ref ah_words, .int vh_groups, .ref ah_left, .int vh_leftLong, .ref ah_seen, .ref ah_text, .int vh_textLong, .int vh_spot, .ref ah_signs, .ref ah_pauses, .int vh_read])), (ah_all, .inl (g.2.1, 120, .inl vh_all)), (ah_kept, .inl (g.2.1, 120, .inl vh_kept))]) 0 0 := by
  induction fu with
  | zero => intro vh_historyLong vh_groups vh_leftLong vh_textLong vh_spot vh_read vh_all vh_kept x1 res hf; exact absurd hf (by intro h; cases h)
  | succ fu ih =>
    intro vh_historyLong vh_groups vh_leftLong vh_textLong vh_spot vh_read vh_all vh_kept x1 res hf
    rw [f_X5_keeps_L2] at hf
    refine bw_iload_n 1 dX5_keeps_2 rfl rfl ?_
    refine bw_bipush 120 dX5_keeps_3 (by decide) ?_
    refine bw_icmp_ge 26 dX5_keeps_5 (by decide) (fun c_4 => ?_) (fun c_4 => ?_)
    · have hf := bw_pos c_4 hf
      cases Option.some.inj hf
      exact bw_vret rfl (Nat.le_of_ble_eq_true rfl) (Nat.le_of_ble_eq_true rfl) dX5_keeps_26 ⟨rfl, rfl⟩
    · have hf := bw_neg c_4 hf
      refine bw_aload_n 0 dX5_keeps_8 rfl rfl ?_
      refine bw_gf bkX5 0 1 (by decide) fl_X5_13 rfl rfl dX5_keeps_9 ?_
      refine bw_iload_n 1 dX5_keeps_12 rfl rfl ?_
      refine bw_aload_n 0 dX5_keeps_13 rfl rfl ?_
      refine bw_gf bkX5 0 0 (by decide) fl_X5_7 rfl rfl dX5_keeps_14 ?_
      refine bw_iload_n 1 dX5_keeps_17 rfl rfl ?_
      obtain ⟨h_5, hf⟩ := bw_chk hf
      refine bw_iald 1 rfl h_5 dX5_keeps_18 ?_
      obtain ⟨h_6, hf⟩ := bw_chk hf
      refine bw_iast 2 ([(ah, .inr (5, [.ref ah_all, .ref ah_kept, .ref ah_history, .int vh_historyLong, .ref ah_slots, .ref ah_isSaved, .ref ah_words, .int vh_groups, .ref ah_left, .int vh_leftLong, .ref ah_seen, .ref ah_text, .int vh_textLong, .int vh_spot, .ref ah_signs, .ref ah_pauses, .int vh_read])), (ah_all, .inl (g.2.1, 120, .inl vh_all)), (ah_kept, .inl (g.2.1, 120, .inl ((upd vh_kept (Int32.toNatClampNeg x1) ((vh_all (Int32.toNatClampNeg x1)))))))]) rfl h_6 rfl dX5_keeps_19 ?_
      refine bw_iinc 1 (x1 + 1) [(1, .int ((x1 + 1))), (0, .ref ah)] dX5_keeps_20 rfl rfl (by decide) rfl ?_
      refine bw_goto 2 dX5_keeps_23 (by decide) ?_
      refine bw_lv [1, 0] rfl ?_
      exact ih vh_historyLong vh_groups vh_leftLong vh_textLong vh_spot vh_read vh_all ((upd vh_kept (Int32.toNatClampNeg x1) ((vh_all (Int32.toNatClampNeg x1))))) ((x1 + 1)) _ hf
theorem ar_X5_keeps : yX5_keeps.cls ≠ "java/lang/invoke/MethodHandle" ∧ yX5_keeps.cls ≠ "java/lang/invoke/VarHandle" ∧ (parseMethodDescriptor yX5_keeps.desc).map (fun d => d.parameters.length) = some 0 := ⟨by decide, by decide, by decide +kernel⟩
def f_X5_keeps (vh_all : Nat → Int32) (vh_kept : Nat → Int32)  : Option ((Nat → Int32)) := (f_X5_keeps_L2 bw_F vh_all vh_kept 0)
set_option maxHeartbeats 4000000 in
set_option maxRecDepth 100000 in
theorem s_X5_keeps (l : Launch) (g : bwG) (ah ah_all ah_kept ah_history ah_slots ah_isSaved ah_words ah_left ah_seen ah_text ah_signs ah_pauses : Nat) (vh_historyLong : Int32) (vh_groups : Int32) (vh_leftLong : Int32) (vh_textLong : Int32) (vh_spot : Int32) (vh_read : Int32) (vh_all : Nat → Int32) (vh_kept : Nat → Int32)  (res : (Nat → Int32)) (hf : f_X5_keeps vh_all vh_kept  = some res) : bwS l g yX5_keeps cX5_keeps 2 none ({ frames := 0, cells := 0, slots := 0, locals := 0 } : Room) [.ref ah] ([(ah, .inr (5, [.ref ah_all, .ref ah_kept, .ref ah_history, .int vh_historyLong, .ref ah_slots, .ref ah_isSaved, .ref ah_words, .int vh_groups, .ref ah_left, .int vh_leftLong, .ref ah_seen, .ref ah_text, .int vh_textLong, .int vh_spot, .ref ah_signs, .ref ah_pauses, .int vh_read])), (ah_all, .inl (g.2.1, 120, .inl vh_all)), (ah_kept, .inl (g.2.1, 120, .inl vh_kept))]) (fun r w => r = none ∧ w = [(ah, .inr (5, [.ref ah_all, .ref ah_kept, .ref ah_history, .int vh_historyLong, .ref ah_slots, .ref ah_isSaved, .ref ah_words, .int vh_groups, .ref ah_left, .int vh_leftLong, .ref ah_seen, .ref ah_text, .int vh_textLong, .int vh_spot, .ref ah_signs, .ref ah_pauses, .int vh_read])), (ah_all, .inl (g.2.1, 120, .inl vh_all)), (ah_kept, .inl (g.2.1, 120, .inl res))]) := by
  refine bwS_of (by decide) (Nat.le_of_ble_eq_true rfl) ?_
  unfold f_X5_keeps at hf
  show bwR l g cX5_keeps 2 RX5 "keeps" none ({ frames := 0, cells := 0, slots := 0, locals := 0 } : Room) bwT (bwZ g (fun r w => r = none ∧ w = [(ah, .inr (5, [.ref ah_all, .ref ah_kept, .ref ah_history, .int vh_historyLong, .ref ah_slots, .ref ah_isSaved, .ref ah_words, .int vh_groups, .ref ah_left, .int vh_leftLong, .ref ah_seen, .ref ah_text, .int vh_textLong, .int vh_spot, .ref ah_signs, .ref ah_pauses, .int vh_read])), (ah_all, .inl (g.2.1, 120, .inl vh_all)), (ah_kept, .inl (g.2.1, 120, .inl res))]) 0 0) 0 [(0, .ref ah)] [] ([(ah, .inr (5, [.ref ah_all, .ref ah_kept, .ref ah_history, .int vh_historyLong, .ref ah_slots, .ref ah_isSaved, .ref ah_words, .int vh_groups, .ref ah_left, .int vh_leftLong, .ref ah_seen, .ref ah_text, .int vh_textLong, .int vh_spot, .ref ah_signs, .ref ah_pauses, .int vh_read])), (ah_all, .inl (g.2.1, 120, .inl vh_all)), (ah_kept, .inl (g.2.1, 120, .inl vh_kept))]) 0 0
  refine bw_iconst 0 dX5_keeps_0 (by decide) ?_
  refine bw_istore_n [(1, .int 0), (0, .ref ah)] dX5_keeps_1 rfl (by decide) rfl ?_
  refine bw_lv [1, 0] rfl ?_
  exact s_X5_keeps_L2 l g ah ah_all ah_kept ah_history ah_slots ah_isSaved ah_words ah_left ah_seen ah_text ah_signs ah_pauses bw_F vh_historyLong vh_groups vh_leftLong vh_textLong vh_spot vh_read vh_all vh_kept 0 _ hf
def f_X5_comesBack_L2 : Nat → (Nat → Int32) → (Nat → Int32) → (Int32) → Option ((Nat → Int32))
  | 0, _, _, _ => none
  | fu + 1, vh_all, vh_kept, x1 => (if 120 ≤ x1 then some vh_all else (if bw_in x1 120 then (if bw_in x1 120 then (f_X5_comesBack_L2 fu ((upd vh_all (Int32.toNatClampNeg x1) ((vh_kept (Int32.toNatClampNeg x1))))) vh_kept ((x1 + 1))) else none) else none))
set_option maxHeartbeats 4000000 in
set_option maxRecDepth 100000 in
theorem s_X5_comesBack_L2 (l : Launch) (g : bwG) (ah ah_all ah_kept ah_history ah_slots ah_isSaved ah_words ah_left ah_seen ah_text ah_signs ah_pauses : Nat) (fu : Nat) : ∀ (vh_historyLong : Int32) (vh_groups : Int32) (vh_leftLong : Int32) (vh_textLong : Int32) (vh_spot : Int32) (vh_read : Int32) (vh_all : Nat → Int32) (vh_kept : Nat → Int32) (x1 : Int32) (res : (Nat → Int32)), f_X5_comesBack_L2 fu vh_all vh_kept x1 = some res → bwR l g cX5_comesBack 2 RX5 "comesBack" none ({ frames := 0, cells := 0, slots := 0, locals := 0 } : Room) bwT (bwZ g (fun r w => r = none ∧ w = [(ah, .inr (5, [.ref ah_all, .ref ah_kept, .ref ah_history, .int vh_historyLong, .ref ah_slots, .ref ah_isSaved, .ref ah_words, .int vh_groups, .ref ah_left, .int vh_leftLong, .ref ah_seen, .ref ah_text, .int vh_textLong, .int vh_spot, .ref ah_signs, .ref ah_pauses, .int vh_read])), (ah_all, .inl (g.2.1, 120, .inl res)), (ah_kept, .inl (g.2.1, 120, .inl vh_kept))]) 0 0) 2 [(0, .ref ah), (1, .int x1)] [] ([(ah, .inr (5, [.ref ah_all, .ref ah_kept, .ref ah_history, .int vh_historyLong, .ref ah_slots, .ref ah_isSaved, .ref ah_words, .int vh_groups, .ref ah_left, .int vh_leftLong, .ref ah_seen, .ref ah_text, .int vh_textLong, .int vh_spot, .ref ah_signs, .ref ah_pauses, .int vh_read])), (ah_all, .inl (g.2.1, 120, .inl vh_all)), (ah_kept, .inl (g.2.1, 120, .inl vh_kept))]) 0 0 := by
  induction fu with
  | zero => intro vh_historyLong vh_groups vh_leftLong vh_textLong vh_spot vh_read vh_all vh_kept x1 res hf; exact absurd hf (by intro h; cases h)
  | succ fu ih =>
    intro vh_historyLong vh_groups vh_leftLong vh_textLong vh_spot vh_read vh_all vh_kept x1 res hf
    rw [f_X5_comesBack_L2] at hf
    refine bw_iload_n 1 dX5_comesBack_2 rfl rfl ?_
    refine bw_bipush 120 dX5_comesBack_3 (by decide) ?_
    refine bw_icmp_ge 26 dX5_comesBack_5 (by decide) (fun c_4 => ?_) (fun c_4 => ?_)
    · have hf := bw_pos c_4 hf
      cases Option.some.inj hf
      exact bw_vret rfl (Nat.le_of_ble_eq_true rfl) (Nat.le_of_ble_eq_true rfl) dX5_comesBack_26 ⟨rfl, rfl⟩
    · have hf := bw_neg c_4 hf
      refine bw_aload_n 0 dX5_comesBack_8 rfl rfl ?_
      refine bw_gf bkX5 0 0 (by decide) fl_X5_7 rfl rfl dX5_comesBack_9 ?_
      refine bw_iload_n 1 dX5_comesBack_12 rfl rfl ?_
      refine bw_aload_n 0 dX5_comesBack_13 rfl rfl ?_
      refine bw_gf bkX5 0 1 (by decide) fl_X5_13 rfl rfl dX5_comesBack_14 ?_
      refine bw_iload_n 1 dX5_comesBack_17 rfl rfl ?_
      obtain ⟨h_5, hf⟩ := bw_chk hf
      refine bw_iald 2 rfl h_5 dX5_comesBack_18 ?_
      obtain ⟨h_6, hf⟩ := bw_chk hf
      refine bw_iast 1 ([(ah, .inr (5, [.ref ah_all, .ref ah_kept, .ref ah_history, .int vh_historyLong, .ref ah_slots, .ref ah_isSaved, .ref ah_words, .int vh_groups, .ref ah_left, .int vh_leftLong, .ref ah_seen, .ref ah_text, .int vh_textLong, .int vh_spot, .ref ah_signs, .ref ah_pauses, .int vh_read])), (ah_all, .inl (g.2.1, 120, .inl ((upd vh_all (Int32.toNatClampNeg x1) ((vh_kept (Int32.toNatClampNeg x1))))))), (ah_kept, .inl (g.2.1, 120, .inl vh_kept))]) rfl h_6 rfl dX5_comesBack_19 ?_
      refine bw_iinc 1 (x1 + 1) [(1, .int ((x1 + 1))), (0, .ref ah)] dX5_comesBack_20 rfl rfl (by decide) rfl ?_
      refine bw_goto 2 dX5_comesBack_23 (by decide) ?_
      refine bw_lv [1, 0] rfl ?_
      exact ih vh_historyLong vh_groups vh_leftLong vh_textLong vh_spot vh_read ((upd vh_all (Int32.toNatClampNeg x1) ((vh_kept (Int32.toNatClampNeg x1))))) vh_kept ((x1 + 1)) _ hf
theorem ar_X5_comesBack : yX5_comesBack.cls ≠ "java/lang/invoke/MethodHandle" ∧ yX5_comesBack.cls ≠ "java/lang/invoke/VarHandle" ∧ (parseMethodDescriptor yX5_comesBack.desc).map (fun d => d.parameters.length) = some 0 := ⟨by decide, by decide, by decide +kernel⟩
def f_X5_comesBack (vh_all : Nat → Int32) (vh_kept : Nat → Int32)  : Option ((Nat → Int32)) := (f_X5_comesBack_L2 bw_F vh_all vh_kept 0)
set_option maxHeartbeats 4000000 in
set_option maxRecDepth 100000 in
theorem s_X5_comesBack (l : Launch) (g : bwG) (ah ah_all ah_kept ah_history ah_slots ah_isSaved ah_words ah_left ah_seen ah_text ah_signs ah_pauses : Nat) (vh_historyLong : Int32) (vh_groups : Int32) (vh_leftLong : Int32) (vh_textLong : Int32) (vh_spot : Int32) (vh_read : Int32) (vh_all : Nat → Int32) (vh_kept : Nat → Int32)  (res : (Nat → Int32)) (hf : f_X5_comesBack vh_all vh_kept  = some res) : bwS l g yX5_comesBack cX5_comesBack 2 none ({ frames := 0, cells := 0, slots := 0, locals := 0 } : Room) [.ref ah] ([(ah, .inr (5, [.ref ah_all, .ref ah_kept, .ref ah_history, .int vh_historyLong, .ref ah_slots, .ref ah_isSaved, .ref ah_words, .int vh_groups, .ref ah_left, .int vh_leftLong, .ref ah_seen, .ref ah_text, .int vh_textLong, .int vh_spot, .ref ah_signs, .ref ah_pauses, .int vh_read])), (ah_all, .inl (g.2.1, 120, .inl vh_all)), (ah_kept, .inl (g.2.1, 120, .inl vh_kept))]) (fun r w => r = none ∧ w = [(ah, .inr (5, [.ref ah_all, .ref ah_kept, .ref ah_history, .int vh_historyLong, .ref ah_slots, .ref ah_isSaved, .ref ah_words, .int vh_groups, .ref ah_left, .int vh_leftLong, .ref ah_seen, .ref ah_text, .int vh_textLong, .int vh_spot, .ref ah_signs, .ref ah_pauses, .int vh_read])), (ah_all, .inl (g.2.1, 120, .inl res)), (ah_kept, .inl (g.2.1, 120, .inl vh_kept))]) := by
  refine bwS_of (by decide) (Nat.le_of_ble_eq_true rfl) ?_
  unfold f_X5_comesBack at hf
  show bwR l g cX5_comesBack 2 RX5 "comesBack" none ({ frames := 0, cells := 0, slots := 0, locals := 0 } : Room) bwT (bwZ g (fun r w => r = none ∧ w = [(ah, .inr (5, [.ref ah_all, .ref ah_kept, .ref ah_history, .int vh_historyLong, .ref ah_slots, .ref ah_isSaved, .ref ah_words, .int vh_groups, .ref ah_left, .int vh_leftLong, .ref ah_seen, .ref ah_text, .int vh_textLong, .int vh_spot, .ref ah_signs, .ref ah_pauses, .int vh_read])), (ah_all, .inl (g.2.1, 120, .inl res)), (ah_kept, .inl (g.2.1, 120, .inl vh_kept))]) 0 0) 0 [(0, .ref ah)] [] ([(ah, .inr (5, [.ref ah_all, .ref ah_kept, .ref ah_history, .int vh_historyLong, .ref ah_slots, .ref ah_isSaved, .ref ah_words, .int vh_groups, .ref ah_left, .int vh_leftLong, .ref ah_seen, .ref ah_text, .int vh_textLong, .int vh_spot, .ref ah_signs, .ref ah_pauses, .int vh_read])), (ah_all, .inl (g.2.1, 120, .inl vh_all)), (ah_kept, .inl (g.2.1, 120, .inl vh_kept))]) 0 0
  refine bw_iconst 0 dX5_comesBack_0 (by decide) ?_
  refine bw_istore_n [(1, .int 0), (0, .ref ah)] dX5_comesBack_1 rfl (by decide) rfl ?_
  refine bw_lv [1, 0] rfl ?_
  exact s_X5_comesBack_L2 l g ah ah_all ah_kept ah_history ah_slots ah_isSaved ah_words ah_left ah_seen ah_text ah_signs ah_pauses bw_F vh_historyLong vh_groups vh_leftLong vh_textLong vh_spot vh_read vh_all vh_kept 0 _ hf
theorem ar_X5_areEyes : yX5_areEyes.cls ≠ "java/lang/invoke/MethodHandle" ∧ yX5_areEyes.cls ≠ "java/lang/invoke/VarHandle" ∧ (parseMethodDescriptor yX5_areEyes.desc).map (fun d => d.parameters.length) = some 1 := ⟨by decide, by decide, by decide +kernel⟩
def f_X5_areEyes  (p0 : Int32) : Option (Int32) := ((f_X5_in (((p0 : Int32).toInt64)) 0 2).bind fun q_3 => (if bw_nb q_3 then some q_3 else none))
set_option maxHeartbeats 4000000 in
set_option maxRecDepth 100000 in
theorem s_X5_areEyes (l : Launch) (g : bwG)   (p0 : Int32) (res : Int32) (hf : f_X5_areEyes  p0 = some res) : bwS l g yX5_areEyes cX5_areEyes 1 (some .boolean) ({ frames := 1, cells := 0, slots := 0, locals := 25 } : Room) [.int p0] ([]) (fun r w => r = some (.int res) ∧ w = []) := by
  refine bwS_of (by decide) (Nat.le_of_ble_eq_true rfl) ?_
  unfold f_X5_areEyes at hf
  show bwR l g cX5_areEyes 1 RX5 "areEyes" (some .boolean) ({ frames := 1, cells := 0, slots := 0, locals := 25 } : Room) bwT (bwZ g (fun r w => r = some (.int res) ∧ w = []) 0 0) 0 [(0, .int p0)] [] ([]) 0 0
  refine bw_iload_n 0 dX5_areEyes_0 rfl rfl ?_
  refine bw_i2l dX5_areEyes_1 ?_
  refine bw_lconst 0 dX5_areEyes_2 (by decide) ?_
  refine bw_ldc2 ct_X5_47 dX5_areEyes_3 ?_
  obtain ⟨q_3, hc_3, hf⟩ := bw_bind hf
  refine bw_callS [.long (((p0 : Int32).toInt64)), .long 0, .long 2] [] [] (s_X5_in l g   (((p0 : Int32).toInt64)) 0 2 _ hc_3) rfl co_X5_in ini_X5 ml_X5_49 st_X5_in ar_X5_in ⟨Nat.le_of_ble_eq_true rfl, Nat.le_of_ble_eq_true rfl⟩ ⟨Nat.le_of_ble_eq_true rfl, Nat.le_of_ble_eq_true rfl⟩ (bw_pick1 0 [] rfl rfl (by decide)) (Nat.le_of_ble_eq_true rfl) dX5_areEyes_6 (fun r w1 hq => ?_)
  obtain ⟨rfl, rfl⟩ := hq
  refine bw_perm (ws1 := []) (bw_pick1 0 [] rfl rfl (by decide)) ?_
  refine bw_st (st1 := [.int q_3]) rfl ?_
  obtain ⟨h_4, hf⟩ := bw_chk hf
  cases Option.some.inj hf
  exact bw_ret rfl (bw_nbp h_4) (Nat.le_of_ble_eq_true rfl) (Nat.le_of_ble_eq_true rfl) dX5_areEyes_9 ⟨rfl, rfl⟩
theorem ar_X5_isCourtier : yX5_isCourtier.cls ≠ "java/lang/invoke/MethodHandle" ∧ yX5_isCourtier.cls ≠ "java/lang/invoke/VarHandle" ∧ (parseMethodDescriptor yX5_isCourtier.desc).map (fun d => d.parameters.length) = some 1 := ⟨by decide, by decide, by decide +kernel⟩
def f_X5_isCourtier  (p0 : Int32) : Option (Int32) := ((f_X5_in (((p0 : Int32).toInt64)) 0 5).bind fun q_3 => (if bw_nb q_3 then some q_3 else none))
set_option maxHeartbeats 4000000 in
set_option maxRecDepth 100000 in
theorem s_X5_isCourtier (l : Launch) (g : bwG)   (p0 : Int32) (res : Int32) (hf : f_X5_isCourtier  p0 = some res) : bwS l g yX5_isCourtier cX5_isCourtier 1 (some .boolean) ({ frames := 1, cells := 0, slots := 0, locals := 25 } : Room) [.int p0] ([]) (fun r w => r = some (.int res) ∧ w = []) := by
  refine bwS_of (by decide) (Nat.le_of_ble_eq_true rfl) ?_
  unfold f_X5_isCourtier at hf
  show bwR l g cX5_isCourtier 1 RX5 "isCourtier" (some .boolean) ({ frames := 1, cells := 0, slots := 0, locals := 25 } : Room) bwT (bwZ g (fun r w => r = some (.int res) ∧ w = []) 0 0) 0 [(0, .int p0)] [] ([]) 0 0
  refine bw_iload_n 0 dX5_isCourtier_0 rfl rfl ?_
  refine bw_i2l dX5_isCourtier_1 ?_
  refine bw_lconst 0 dX5_isCourtier_2 (by decide) ?_
  refine bw_ldc2 ct_X5_53 dX5_isCourtier_3 ?_
  obtain ⟨q_3, hc_3, hf⟩ := bw_bind hf
  refine bw_callS [.long (((p0 : Int32).toInt64)), .long 0, .long 5] [] [] (s_X5_in l g   (((p0 : Int32).toInt64)) 0 5 _ hc_3) rfl co_X5_in ini_X5 ml_X5_49 st_X5_in ar_X5_in ⟨Nat.le_of_ble_eq_true rfl, Nat.le_of_ble_eq_true rfl⟩ ⟨Nat.le_of_ble_eq_true rfl, Nat.le_of_ble_eq_true rfl⟩ (bw_pick1 0 [] rfl rfl (by decide)) (Nat.le_of_ble_eq_true rfl) dX5_isCourtier_6 (fun r w1 hq => ?_)
  obtain ⟨rfl, rfl⟩ := hq
  refine bw_perm (ws1 := []) (bw_pick1 0 [] rfl rfl (by decide)) ?_
  refine bw_st (st1 := [.int q_3]) rfl ?_
  obtain ⟨h_4, hf⟩ := bw_chk hf
  cases Option.some.inj hf
  exact bw_ret rfl (bw_nbp h_4) (Nat.le_of_ble_eq_true rfl) (Nat.le_of_ble_eq_true rfl) dX5_isCourtier_9 ⟨rfl, rfl⟩
theorem ar_X5_signSeen : yX5_signSeen.cls ≠ "java/lang/invoke/MethodHandle" ∧ yX5_signSeen.cls ≠ "java/lang/invoke/VarHandle" ∧ (parseMethodDescriptor yX5_signSeen.desc).map (fun d => d.parameters.length) = some 2 := ⟨by decide, by decide, by decide +kernel⟩
def f_X5_signSeen (vh_all : Nat → Int32) (p0 : Int32) (p1 : Int32) : Option (Int32) := (if bw_in ((48 + p0)) 120 then (if p1 = 1 then (if (vh_all (Int32.toNatClampNeg ((48 + p0)))) ≤ 3 then some (vh_all (Int32.toNatClampNeg ((48 + p0)))) else some ((vh_all (Int32.toNatClampNeg ((48 + p0)))) - 2)) else some (vh_all (Int32.toNatClampNeg ((48 + p0))))) else none)
set_option maxHeartbeats 4000000 in
set_option maxRecDepth 100000 in
theorem s_X5_signSeen (l : Launch) (g : bwG) (ah ah_all ah_kept ah_history ah_slots ah_isSaved ah_words ah_left ah_seen ah_text ah_signs ah_pauses : Nat) (vh_historyLong : Int32) (vh_groups : Int32) (vh_leftLong : Int32) (vh_textLong : Int32) (vh_spot : Int32) (vh_read : Int32) (vh_all : Nat → Int32) (p0 : Int32) (p1 : Int32) (res : Int32) (hf : f_X5_signSeen vh_all p0 p1 = some res) : bwS l g yX5_signSeen cX5_signSeen 4 (some .int) ({ frames := 0, cells := 0, slots := 0, locals := 0 } : Room) [.ref ah, .int p0, .int p1] ([(ah, .inr (5, [.ref ah_all, .ref ah_kept, .ref ah_history, .int vh_historyLong, .ref ah_slots, .ref ah_isSaved, .ref ah_words, .int vh_groups, .ref ah_left, .int vh_leftLong, .ref ah_seen, .ref ah_text, .int vh_textLong, .int vh_spot, .ref ah_signs, .ref ah_pauses, .int vh_read])), (ah_all, .inl (g.2.1, 120, .inl vh_all))]) (fun r w => r = some (.int res) ∧ w = [(ah, .inr (5, [.ref ah_all, .ref ah_kept, .ref ah_history, .int vh_historyLong, .ref ah_slots, .ref ah_isSaved, .ref ah_words, .int vh_groups, .ref ah_left, .int vh_leftLong, .ref ah_seen, .ref ah_text, .int vh_textLong, .int vh_spot, .ref ah_signs, .ref ah_pauses, .int vh_read])), (ah_all, .inl (g.2.1, 120, .inl vh_all))]) := by
  refine bwS_of (by decide) (Nat.le_of_ble_eq_true rfl) ?_
  unfold f_X5_signSeen at hf
  show bwR l g cX5_signSeen 4 RX5 "signSeen" (some .int) ({ frames := 0, cells := 0, slots := 0, locals := 0 } : Room) bwT (bwZ g (fun r w => r = some (.int res) ∧ w = [(ah, .inr (5, [.ref ah_all, .ref ah_kept, .ref ah_history, .int vh_historyLong, .ref ah_slots, .ref ah_isSaved, .ref ah_words, .int vh_groups, .ref ah_left, .int vh_leftLong, .ref ah_seen, .ref ah_text, .int vh_textLong, .int vh_spot, .ref ah_signs, .ref ah_pauses, .int vh_read])), (ah_all, .inl (g.2.1, 120, .inl vh_all))]) 0 0) 0 [(0, .ref ah), (1, .int p0), (2, .int p1)] [] ([(ah, .inr (5, [.ref ah_all, .ref ah_kept, .ref ah_history, .int vh_historyLong, .ref ah_slots, .ref ah_isSaved, .ref ah_words, .int vh_groups, .ref ah_left, .int vh_leftLong, .ref ah_seen, .ref ah_text, .int vh_textLong, .int vh_spot, .ref ah_signs, .ref ah_pauses, .int vh_read])), (ah_all, .inl (g.2.1, 120, .inl vh_all))]) 0 0
  refine bw_aload_n 0 dX5_signSeen_0 rfl rfl ?_
  refine bw_gf bkX5 0 0 (by decide) fl_X5_7 rfl rfl dX5_signSeen_1 ?_
  refine bw_bipush 48 dX5_signSeen_4 (by decide) ?_
  refine bw_iload_n 1 dX5_signSeen_6 rfl rfl ?_
  refine bw_iadd dX5_signSeen_7 ?_
  obtain ⟨h_4, hf⟩ := bw_chk hf
  refine bw_iald 1 rfl h_4 dX5_signSeen_8 ?_
  refine bw_istore_n [(3, .int ((vh_all (Int32.toNatClampNeg ((48 + p0)))))), (0, .ref ah), (1, .int p0), (2, .int p1)] dX5_signSeen_9 rfl (by decide) rfl ?_
  refine bw_iload_n 3 dX5_signSeen_10 rfl rfl ?_
  refine bw_iconst 1 dX5_signSeen_11 (by decide) ?_
  refine bw_icmp_ne 26 dX5_signSeen_12 (by decide) (fun c_5 => ?_) (fun c_5 => ?_)
  · have hf := bw_neg c_5 hf
    refine bw_iload_n 0 dX5_signSeen_26 rfl rfl ?_
    cases Option.some.inj hf
    exact bw_ret rfl rfl (Nat.le_of_ble_eq_true rfl) (Nat.le_of_ble_eq_true rfl) dX5_signSeen_27 ⟨rfl, rfl⟩
  · have hf := bw_pos c_5 hf
    refine bw_iload_n 0 dX5_signSeen_15 rfl rfl ?_
    refine bw_iconst 3 dX5_signSeen_16 (by decide) ?_
    refine bw_icmp_le 26 dX5_signSeen_17 (by decide) (fun c_6 => ?_) (fun c_6 => ?_)
    · have hf := bw_pos c_6 hf
      refine bw_iload_n 0 dX5_signSeen_26 rfl rfl ?_
      cases Option.some.inj hf
      exact bw_ret rfl rfl (Nat.le_of_ble_eq_true rfl) (Nat.le_of_ble_eq_true rfl) dX5_signSeen_27 ⟨rfl, rfl⟩
    · have hf := bw_neg c_6 hf
      refine bw_iload_n 0 dX5_signSeen_20 rfl rfl ?_
      refine bw_iconst 2 dX5_signSeen_21 (by decide) ?_
      refine bw_isub dX5_signSeen_22 ?_
      refine bw_goto 27 dX5_signSeen_23 (by decide) ?_
      cases Option.some.inj hf
      exact bw_ret rfl rfl (Nat.le_of_ble_eq_true rfl) (Nat.le_of_ble_eq_true rfl) dX5_signSeen_27 ⟨rfl, rfl⟩
theorem ar_X5_endsSeen : yX5_endsSeen.cls ≠ "java/lang/invoke/MethodHandle" ∧ yX5_endsSeen.cls ≠ "java/lang/invoke/VarHandle" ∧ (parseMethodDescriptor yX5_endsSeen.desc).map (fun d => d.parameters.length) = some 2 := ⟨by decide, by decide, by decide +kernel⟩
def f_X5_endsSeen (vh_all : Nat → Int32) (p0 : Int32) (p1 : Int32) : Option (Int32) := (if bw_in ((72 + p0)) 120 then (if bw_in 3 120 then (if p0 = ((vh_all (Int32.toNatClampNeg 3)) - 1) then some 1 else (if bw_in 0 120 then (if (vh_all (Int32.toNatClampNeg 0)) ≤ (vh_all (Int32.toNatClampNeg ((72 + p0)))) then some 1 else (if p1 = 2 then (if (vh_all (Int32.toNatClampNeg ((72 + p0)))) ≤ 0 then some 0 else some 1) else some 0)) else none)) else none) else none)
set_option maxHeartbeats 4000000 in
set_option maxRecDepth 100000 in
theorem s_X5_endsSeen (l : Launch) (g : bwG) (ah ah_all ah_kept ah_history ah_slots ah_isSaved ah_words ah_left ah_seen ah_text ah_signs ah_pauses : Nat) (vh_historyLong : Int32) (vh_groups : Int32) (vh_leftLong : Int32) (vh_textLong : Int32) (vh_spot : Int32) (vh_read : Int32) (vh_all : Nat → Int32) (p0 : Int32) (p1 : Int32) (res : Int32) (hf : f_X5_endsSeen vh_all p0 p1 = some res) : bwS l g yX5_endsSeen cX5_endsSeen 4 (some .boolean) ({ frames := 0, cells := 0, slots := 0, locals := 0 } : Room) [.ref ah, .int p0, .int p1] ([(ah, .inr (5, [.ref ah_all, .ref ah_kept, .ref ah_history, .int vh_historyLong, .ref ah_slots, .ref ah_isSaved, .ref ah_words, .int vh_groups, .ref ah_left, .int vh_leftLong, .ref ah_seen, .ref ah_text, .int vh_textLong, .int vh_spot, .ref ah_signs, .ref ah_pauses, .int vh_read])), (ah_all, .inl (g.2.1, 120, .inl vh_all))]) (fun r w => r = some (.int res) ∧ w = [(ah, .inr (5, [.ref ah_all, .ref ah_kept, .ref ah_history, .int vh_historyLong, .ref ah_slots, .ref ah_isSaved, .ref ah_words, .int vh_groups, .ref ah_left, .int vh_leftLong, .ref ah_seen, .ref ah_text, .int vh_textLong, .int vh_spot, .ref ah_signs, .ref ah_pauses, .int vh_read])), (ah_all, .inl (g.2.1, 120, .inl vh_all))]) := by
  refine bwS_of (by decide) (Nat.le_of_ble_eq_true rfl) ?_
  unfold f_X5_endsSeen at hf
  show bwR l g cX5_endsSeen 4 RX5 "endsSeen" (some .boolean) ({ frames := 0, cells := 0, slots := 0, locals := 0 } : Room) bwT (bwZ g (fun r w => r = some (.int res) ∧ w = [(ah, .inr (5, [.ref ah_all, .ref ah_kept, .ref ah_history, .int vh_historyLong, .ref ah_slots, .ref ah_isSaved, .ref ah_words, .int vh_groups, .ref ah_left, .int vh_leftLong, .ref ah_seen, .ref ah_text, .int vh_textLong, .int vh_spot, .ref ah_signs, .ref ah_pauses, .int vh_read])), (ah_all, .inl (g.2.1, 120, .inl vh_all))]) 0 0) 0 [(0, .ref ah), (1, .int p0), (2, .int p1)] [] ([(ah, .inr (5, [.ref ah_all, .ref ah_kept, .ref ah_history, .int vh_historyLong, .ref ah_slots, .ref ah_isSaved, .ref ah_words, .int vh_groups, .ref ah_left, .int vh_leftLong, .ref ah_seen, .ref ah_text, .int vh_textLong, .int vh_spot, .ref ah_signs, .ref ah_pauses, .int vh_read])), (ah_all, .inl (g.2.1, 120, .inl vh_all))]) 0 0
  refine bw_aload_n 0 dX5_endsSeen_0 rfl rfl ?_
  refine bw_gf bkX5 0 0 (by decide) fl_X5_7 rfl rfl dX5_endsSeen_1 ?_
  refine bw_bipush 72 dX5_endsSeen_4 (by decide) ?_
  refine bw_iload_n 1 dX5_endsSeen_6 rfl rfl ?_
  refine bw_iadd dX5_endsSeen_7 ?_
  obtain ⟨h_8, hf⟩ := bw_chk hf
  refine bw_iald 1 rfl h_8 dX5_endsSeen_8 ?_
  refine bw_istore_n [(3, .int ((vh_all (Int32.toNatClampNeg ((72 + p0)))))), (0, .ref ah), (1, .int p0), (2, .int p1)] dX5_endsSeen_9 rfl (by decide) rfl ?_
  refine bw_iload_n 2 dX5_endsSeen_10 rfl rfl ?_
  refine bw_aload_n 1 dX5_endsSeen_11 rfl rfl ?_
  refine bw_gf bkX5 0 0 (by decide) fl_X5_7 rfl rfl dX5_endsSeen_12 ?_
  refine bw_iconst 3 dX5_endsSeen_15 (by decide) ?_
  obtain ⟨h_9, hf⟩ := bw_chk hf
  refine bw_iald 1 rfl h_9 dX5_endsSeen_16 ?_
  refine bw_iconst 1 dX5_endsSeen_17 (by decide) ?_
  refine bw_isub dX5_endsSeen_18 ?_
  refine bw_icmp_eq 41 dX5_endsSeen_19 (by decide) (fun c_10 => ?_) (fun c_10 => ?_)
  · have hf := bw_pos c_10 hf
    refine bw_iconst 1 dX5_endsSeen_41 (by decide) ?_
    refine bw_goto 46 dX5_endsSeen_42 (by decide) ?_
    cases Option.some.inj hf
    exact bw_ret rfl rfl (Nat.le_of_ble_eq_true rfl) (Nat.le_of_ble_eq_true rfl) dX5_endsSeen_46 ⟨rfl, rfl⟩
  · have hf := bw_neg c_10 hf
    refine bw_iload_n 0 dX5_endsSeen_22 rfl rfl ?_
    refine bw_aload_n 1 dX5_endsSeen_23 rfl rfl ?_
    refine bw_gf bkX5 0 0 (by decide) fl_X5_7 rfl rfl dX5_endsSeen_24 ?_
    refine bw_iconst 0 dX5_endsSeen_27 (by decide) ?_
    obtain ⟨h_11, hf⟩ := bw_chk hf
    refine bw_iald 1 rfl h_11 dX5_endsSeen_28 ?_
    refine bw_icmp_ge 41 dX5_endsSeen_29 (by decide) (fun c_12 => ?_) (fun c_12 => ?_)
    · have hf := bw_pos c_12 hf
      refine bw_iconst 1 dX5_endsSeen_41 (by decide) ?_
      refine bw_goto 46 dX5_endsSeen_42 (by decide) ?_
      cases Option.some.inj hf
      exact bw_ret rfl rfl (Nat.le_of_ble_eq_true rfl) (Nat.le_of_ble_eq_true rfl) dX5_endsSeen_46 ⟨rfl, rfl⟩
    · have hf := bw_neg c_12 hf
      refine bw_iload_n 3 dX5_endsSeen_32 rfl rfl ?_
      refine bw_iconst 2 dX5_endsSeen_33 (by decide) ?_
      refine bw_icmp_ne 45 dX5_endsSeen_34 (by decide) (fun c_13 => ?_) (fun c_13 => ?_)
      · have hf := bw_neg c_13 hf
        refine bw_iconst 0 dX5_endsSeen_45 (by decide) ?_
        cases Option.some.inj hf
        exact bw_ret rfl rfl (Nat.le_of_ble_eq_true rfl) (Nat.le_of_ble_eq_true rfl) dX5_endsSeen_46 ⟨rfl, rfl⟩
      · have hf := bw_pos c_13 hf
        refine bw_iload_n 0 dX5_endsSeen_37 rfl rfl ?_
        refine bw_if_le 45 dX5_endsSeen_38 (by decide) (fun c_14 => ?_) (fun c_14 => ?_)
        · have hf := bw_pos c_14 hf
          refine bw_iconst 0 dX5_endsSeen_45 (by decide) ?_
          cases Option.some.inj hf
          exact bw_ret rfl rfl (Nat.le_of_ble_eq_true rfl) (Nat.le_of_ble_eq_true rfl) dX5_endsSeen_46 ⟨rfl, rfl⟩
        · have hf := bw_neg c_14 hf
          refine bw_iconst 1 dX5_endsSeen_41 (by decide) ?_
          refine bw_goto 46 dX5_endsSeen_42 (by decide) ?_
          cases Option.some.inj hf
          exact bw_ret rfl rfl (Nat.le_of_ble_eq_true rfl) (Nat.le_of_ble_eq_true rfl) dX5_endsSeen_46 ⟨rfl, rfl⟩
theorem ar_X5_isFlourish : yX5_isFlourish.cls ≠ "java/lang/invoke/MethodHandle" ∧ yX5_isFlourish.cls ≠ "java/lang/invoke/VarHandle" ∧ (parseMethodDescriptor yX5_isFlourish.desc).map (fun d => d.parameters.length) = some 1 := ⟨by decide, by decide, by decide +kernel⟩
def f_X5_isFlourish  (p0 : Int32) : Option (Int32) := (if p0 < 42 then some 0 else some 1)
set_option maxHeartbeats 4000000 in
set_option maxRecDepth 100000 in
theorem s_X5_isFlourish (l : Launch) (g : bwG)   (p0 : Int32) (res : Int32) (hf : f_X5_isFlourish  p0 = some res) : bwS l g yX5_isFlourish cX5_isFlourish 1 (some .boolean) ({ frames := 0, cells := 0, slots := 0, locals := 0 } : Room) [.int p0] ([]) (fun r w => r = some (.int res) ∧ w = []) := by
  refine bwS_of (by decide) (Nat.le_of_ble_eq_true rfl) ?_
  unfold f_X5_isFlourish at hf
  show bwR l g cX5_isFlourish 1 RX5 "isFlourish" (some .boolean) ({ frames := 0, cells := 0, slots := 0, locals := 0 } : Room) bwT (bwZ g (fun r w => r = some (.int res) ∧ w = []) 0 0) 0 [(0, .int p0)] [] ([]) 0 0
  refine bw_iload_n 0 dX5_isFlourish_0 rfl rfl ?_
  refine bw_bipush 42 dX5_isFlourish_1 (by decide) ?_
  refine bw_icmp_lt 10 dX5_isFlourish_3 (by decide) (fun c_2 => ?_) (fun c_2 => ?_)
  · have hf := bw_pos c_2 hf
    refine bw_iconst 0 dX5_isFlourish_10 (by decide) ?_
    cases Option.some.inj hf
    exact bw_ret rfl rfl (Nat.le_of_ble_eq_true rfl) (Nat.le_of_ble_eq_true rfl) dX5_isFlourish_11 ⟨rfl, rfl⟩
  · have hf := bw_neg c_2 hf
    refine bw_iconst 1 dX5_isFlourish_6 (by decide) ?_
    refine bw_goto 11 dX5_isFlourish_7 (by decide) ?_
    cases Option.some.inj hf
    exact bw_ret rfl rfl (Nat.le_of_ble_eq_true rfl) (Nat.le_of_ble_eq_true rfl) dX5_isFlourish_11 ⟨rfl, rfl⟩
theorem ar_X5_isDeed : yX5_isDeed.cls ≠ "java/lang/invoke/MethodHandle" ∧ yX5_isDeed.cls ≠ "java/lang/invoke/VarHandle" ∧ (parseMethodDescriptor yX5_isDeed.desc).map (fun d => d.parameters.length) = some 1 := ⟨by decide, by decide, by decide +kernel⟩
def f_X5_isDeed  (p0 : Int32) : Option (Int32) := ((f_X5_in (((p0 : Int32).toInt64)) 6 41).bind fun q_3 => (if bw_nb q_3 then some q_3 else none))
set_option maxHeartbeats 4000000 in
set_option maxRecDepth 100000 in
theorem s_X5_isDeed (l : Launch) (g : bwG)   (p0 : Int32) (res : Int32) (hf : f_X5_isDeed  p0 = some res) : bwS l g yX5_isDeed cX5_isDeed 1 (some .boolean) ({ frames := 1, cells := 0, slots := 0, locals := 25 } : Room) [.int p0] ([]) (fun r w => r = some (.int res) ∧ w = []) := by
  refine bwS_of (by decide) (Nat.le_of_ble_eq_true rfl) ?_
  unfold f_X5_isDeed at hf
  show bwR l g cX5_isDeed 1 RX5 "isDeed" (some .boolean) ({ frames := 1, cells := 0, slots := 0, locals := 25 } : Room) bwT (bwZ g (fun r w => r = some (.int res) ∧ w = []) 0 0) 0 [(0, .int p0)] [] ([]) 0 0
  refine bw_iload_n 0 dX5_isDeed_0 rfl rfl ?_
  refine bw_i2l dX5_isDeed_1 ?_
  refine bw_ldc2 ct_X5_55 dX5_isDeed_2 ?_
  refine bw_ldc2 ct_X5_57 dX5_isDeed_5 ?_
  obtain ⟨q_3, hc_3, hf⟩ := bw_bind hf
  refine bw_callS [.long (((p0 : Int32).toInt64)), .long 6, .long 41] [] [] (s_X5_in l g   (((p0 : Int32).toInt64)) 6 41 _ hc_3) rfl co_X5_in ini_X5 ml_X5_49 st_X5_in ar_X5_in ⟨Nat.le_of_ble_eq_true rfl, Nat.le_of_ble_eq_true rfl⟩ ⟨Nat.le_of_ble_eq_true rfl, Nat.le_of_ble_eq_true rfl⟩ (bw_pick1 0 [] rfl rfl (by decide)) (Nat.le_of_ble_eq_true rfl) dX5_isDeed_8 (fun r w1 hq => ?_)
  obtain ⟨rfl, rfl⟩ := hq
  refine bw_perm (ws1 := []) (bw_pick1 0 [] rfl rfl (by decide)) ?_
  refine bw_st (st1 := [.int q_3]) rfl ?_
  obtain ⟨h_4, hf⟩ := bw_chk hf
  cases Option.some.inj hf
  exact bw_ret rfl (bw_nbp h_4) (Nat.le_of_ble_eq_true rfl) (Nat.le_of_ble_eq_true rfl) dX5_isDeed_11 ⟨rfl, rfl⟩
def f_X5_parts_L130 : Nat → (Int32) → (Int32) → (Nat → Int32) → (Nat → Int32) → (Nat → Int32) → (Int32) → (Int32) → (Int32) → (Int32) → Option ((Int32) × (Int32) × (Nat → Int32) × (Nat → Int32))
  | 0, _, _, _, _, _, _, _, _, _ => none
  | fu + 1, vh_groups, vh_leftLong, vh_all, vh_words, vh_left, x1, x2, x3, x4 => (if vh_groups ≤ x4 then some (vh_groups, vh_leftLong, vh_words, vh_left) else (if bw_in x4 24 then ((f_X5_isFlourish ((vh_words (Int32.toNatClampNeg x4)))).bind fun q_31 => (if q_31 = 0 then (if bw_in x4 24 then (if bw_in vh_leftLong 24 then (f_X5_parts_L130 fu vh_groups ((vh_leftLong + 1)) vh_all vh_words ((upd vh_left (Int32.toNatClampNeg vh_leftLong) ((vh_words (Int32.toNatClampNeg x4))))) x1 x2 x3 ((x4 + 1))) else none) else none) else (f_X5_parts_L130 fu vh_groups vh_leftLong vh_all vh_words vh_left x1 x2 x3 ((x4 + 1))))) else none))
set_option maxHeartbeats 4000000 in
set_option maxRecDepth 100000 in
theorem s_X5_parts_L130 (l : Launch) (g : bwG) (ah ah_all ah_kept ah_history ah_slots ah_isSaved ah_words ah_left ah_seen ah_text ah_signs ah_pauses : Nat) (fu : Nat) : ∀ (vh_historyLong : Int32) (vh_groups : Int32) (vh_leftLong : Int32) (vh_textLong : Int32) (vh_spot : Int32) (vh_read : Int32) (vh_all : Nat → Int32) (vh_words : Nat → Int32) (vh_left : Nat → Int32) (x1 : Int32) (x2 : Int32) (x3 : Int32) (x4 : Int32) (res : (Int32) × (Int32) × (Nat → Int32) × (Nat → Int32)), f_X5_parts_L130 fu vh_groups vh_leftLong vh_all vh_words vh_left x1 x2 x3 x4 = some res → bwR l g cX5_parts 5 RX5 "parts" none ({ frames := 1, cells := 0, slots := 0, locals := 23 } : Room) bwT (bwZ g (fun r w => r = none ∧ w = [(ah, .inr (5, [.ref ah_all, .ref ah_kept, .ref ah_history, .int vh_historyLong, .ref ah_slots, .ref ah_isSaved, .ref ah_words, .int res.1, .ref ah_left, .int res.2.1, .ref ah_seen, .ref ah_text, .int vh_textLong, .int vh_spot, .ref ah_signs, .ref ah_pauses, .int vh_read])), (ah_all, .inl (g.2.1, 120, .inl vh_all)), (ah_words, .inl (g.2.1, 24, .inl res.2.2.1)), (ah_left, .inl (g.2.1, 24, .inl res.2.2.2))]) 0 0) 130 [(0, .ref ah), (1, .int x1), (2, .int x2), (3, .int x3), (4, .int x4)] [] ([(ah, .inr (5, [.ref ah_all, .ref ah_kept, .ref ah_history, .int vh_historyLong, .ref ah_slots, .ref ah_isSaved, .ref ah_words, .int vh_groups, .ref ah_left, .int vh_leftLong, .ref ah_seen, .ref ah_text, .int vh_textLong, .int vh_spot, .ref ah_signs, .ref ah_pauses, .int vh_read])), (ah_all, .inl (g.2.1, 120, .inl vh_all)), (ah_words, .inl (g.2.1, 24, .inl vh_words)), (ah_left, .inl (g.2.1, 24, .inl vh_left))]) 0 0 := by
  induction fu with
  | zero => intro vh_historyLong vh_groups vh_leftLong vh_textLong vh_spot vh_read vh_all vh_words vh_left x1 x2 x3 x4 res hf; exact absurd hf (by intro h; cases h)
  | succ fu ih =>
    intro vh_historyLong vh_groups vh_leftLong vh_textLong vh_spot vh_read vh_all vh_words vh_left x1 x2 x3 x4 res hf
    rw [f_X5_parts_L130] at hf
    refine bw_iload 4 dX5_parts_130 rfl ?_
    refine bw_aload_n 0 dX5_parts_132 rfl rfl ?_
    refine bw_gf bkX5 0 7 (by decide) fl_X5_59 rfl rfl dX5_parts_133 ?_
    refine bw_icmp_ge 184 dX5_parts_136 (by decide) (fun c_29 => ?_) (fun c_29 => ?_)
    · have hf := bw_pos c_29 hf
      cases Option.some.inj hf
      exact bw_vret rfl (Nat.le_of_ble_eq_true rfl) (Nat.le_of_ble_eq_true rfl) dX5_parts_184 ⟨rfl, rfl⟩
    · have hf := bw_neg c_29 hf
      refine bw_aload_n 0 dX5_parts_139 rfl rfl ?_
      refine bw_gf bkX5 0 6 (by decide) fl_X5_25 rfl rfl dX5_parts_140 ?_
      refine bw_iload 4 dX5_parts_143 rfl ?_
      obtain ⟨h_30, hf⟩ := bw_chk hf
      refine bw_iald 2 rfl h_30 dX5_parts_145 ?_
      obtain ⟨q_31, hc_31, hf⟩ := bw_bind hf
      refine bw_callS [.int ((vh_words (Int32.toNatClampNeg x4)))] [] [(ah, .inr (5, [.ref ah_all, .ref ah_kept, .ref ah_history, .int vh_historyLong, .ref ah_slots, .ref ah_isSaved, .ref ah_words, .int vh_groups, .ref ah_left, .int vh_leftLong, .ref ah_seen, .ref ah_text, .int vh_textLong, .int vh_spot, .ref ah_signs, .ref ah_pauses, .int vh_read])), (ah_all, .inl (g.2.1, 120, .inl vh_all)), (ah_words, .inl (g.2.1, 24, .inl vh_words)), (ah_left, .inl (g.2.1, 24, .inl vh_left))] (s_X5_isFlourish l g   ((vh_words (Int32.toNatClampNeg x4))) _ hc_31) rfl co_X5_isFlourish ini_X5 ml_X5_74 st_X5_isFlourish ar_X5_isFlourish ⟨Nat.le_of_ble_eq_true rfl, Nat.le_of_ble_eq_true rfl⟩ ⟨Nat.le_of_ble_eq_true rfl, Nat.le_of_ble_eq_true rfl⟩ (bw_pick1 4 [0, 1, 2, 3] rfl rfl (by decide)) (Nat.le_of_ble_eq_true rfl) dX5_parts_146 (fun r w1 hq => ?_)
      obtain ⟨rfl, rfl⟩ := hq
      refine bw_perm (ws1 := [(ah, .inr (5, [.ref ah_all, .ref ah_kept, .ref ah_history, .int vh_historyLong, .ref ah_slots, .ref ah_isSaved, .ref ah_words, .int vh_groups, .ref ah_left, .int vh_leftLong, .ref ah_seen, .ref ah_text, .int vh_textLong, .int vh_spot, .ref ah_signs, .ref ah_pauses, .int vh_read])), (ah_all, .inl (g.2.1, 120, .inl vh_all)), (ah_words, .inl (g.2.1, 24, .inl vh_words)), (ah_left, .inl (g.2.1, 24, .inl vh_left))]) (bw_pick1 4 [0, 1, 2, 3] rfl rfl (by decide)) ?_
      refine bw_st (st1 := [.int q_31]) rfl ?_
      refine bw_if_ne 178 dX5_parts_149 (by decide) (fun c_32 => ?_) (fun c_32 => ?_)
      · have hf := bw_neg c_32 hf
        refine bw_iinc 4 (x4 + 1) [(4, .int ((x4 + 1))), (0, .ref ah), (1, .int x1), (2, .int x2), (3, .int x3)] dX5_parts_178 rfl rfl (by decide) rfl ?_
        refine bw_goto 130 dX5_parts_181 (by decide) ?_
        refine bw_lv [1, 2, 3, 4, 0] rfl ?_
        exact ih vh_historyLong vh_groups vh_leftLong vh_textLong vh_spot vh_read vh_all vh_words vh_left x1 x2 x3 ((x4 + 1)) _ hf
      · have hf := bw_pos c_32 hf
        refine bw_aload_n 0 dX5_parts_152 rfl rfl ?_
        refine bw_gf bkX5 0 8 (by decide) fl_X5_28 rfl rfl dX5_parts_153 ?_
        refine bw_aload_n 0 dX5_parts_156 rfl rfl ?_
        refine bw_gf bkX5 0 9 (by decide) fl_X5_71 rfl rfl dX5_parts_157 ?_
        refine bw_aload_n 0 dX5_parts_160 rfl rfl ?_
        refine bw_gf bkX5 0 6 (by decide) fl_X5_25 rfl rfl dX5_parts_161 ?_
        refine bw_iload 4 dX5_parts_164 rfl ?_
        obtain ⟨h_33, hf⟩ := bw_chk hf
        refine bw_iald 2 rfl h_33 dX5_parts_166 ?_
        obtain ⟨h_34, hf⟩ := bw_chk hf
        refine bw_iast 3 ([(ah, .inr (5, [.ref ah_all, .ref ah_kept, .ref ah_history, .int vh_historyLong, .ref ah_slots, .ref ah_isSaved, .ref ah_words, .int vh_groups, .ref ah_left, .int vh_leftLong, .ref ah_seen, .ref ah_text, .int vh_textLong, .int vh_spot, .ref ah_signs, .ref ah_pauses, .int vh_read])), (ah_all, .inl (g.2.1, 120, .inl vh_all)), (ah_words, .inl (g.2.1, 24, .inl vh_words)), (ah_left, .inl (g.2.1, 24, .inl ((upd vh_left (Int32.toNatClampNeg vh_leftLong) ((vh_words (Int32.toNatClampNeg x4)))))))]) rfl h_34 rfl dX5_parts_167 ?_
        refine bw_aload_n 0 dX5_parts_168 rfl rfl ?_
        refine bw_dup dX5_parts_169 rfl ?_
        refine bw_gf bkX5 0 9 (by decide) fl_X5_71 rfl rfl dX5_parts_170 ?_
        refine bw_iconst 1 dX5_parts_173 (by decide) ?_
        refine bw_iadd dX5_parts_174 ?_
        refine bw_pf bkX5 0 9 ([(ah, .inr (5, [.ref ah_all, .ref ah_kept, .ref ah_history, .int vh_historyLong, .ref ah_slots, .ref ah_isSaved, .ref ah_words, .int vh_groups, .ref ah_left, .int ((vh_leftLong + 1)), .ref ah_seen, .ref ah_text, .int vh_textLong, .int vh_spot, .ref ah_signs, .ref ah_pauses, .int vh_read])), (ah_all, .inl (g.2.1, 120, .inl vh_all)), (ah_words, .inl (g.2.1, 24, .inl vh_words)), (ah_left, .inl (g.2.1, 24, .inl ((upd vh_left (Int32.toNatClampNeg vh_leftLong) ((vh_words (Int32.toNatClampNeg x4)))))))]) (by decide) fl_X5_71 rfl rfl rfl rfl rfl (Nat.le_of_ble_eq_true rfl) rfl dX5_parts_175 ?_
        refine bw_iinc 4 (x4 + 1) [(4, .int ((x4 + 1))), (0, .ref ah), (1, .int x1), (2, .int x2), (3, .int x3)] dX5_parts_178 rfl rfl (by decide) rfl ?_
        refine bw_goto 130 dX5_parts_181 (by decide) ?_
        refine bw_lv [1, 2, 3, 4, 0] rfl ?_
        exact ih vh_historyLong vh_groups ((vh_leftLong + 1)) vh_textLong vh_spot vh_read vh_all vh_words ((upd vh_left (Int32.toNatClampNeg vh_leftLong) ((vh_words (Int32.toNatClampNeg x4))))) x1 x2 x3 ((x4 + 1)) _ hf
def f_X5_parts_L12 : Nat → (Int32) → (Int32) → (Nat → Int32) → (Nat → Int32) → (Nat → Int32) → (Int32) → (Int32) → (Int32) → (Int32) → Option ((Int32) × (Int32) × (Nat → Int32) × (Nat → Int32))
  | 0, _, _, _, _, _, _, _, _, _ => none
  | fu + 1, vh_groups, vh_leftLong, vh_all, vh_words, vh_left, x1, x2, x3, x4 => (if bw_in 3 120 then (if (vh_all (Int32.toNatClampNeg 3)) ≤ x4 then (f_X5_parts_L130 bw_F vh_groups 0 vh_all vh_words vh_left x1 x2 x3 0) else (if (x2 + 1) ≤ 3 then ((f_X5_signSeen vh_all x4 x1).bind fun q_38 => ((f_X5_endsSeen vh_all x4 x1).bind fun q_39 => (if q_39 = 0 then (f_X5_parts_L12 fu vh_groups vh_leftLong vh_all vh_words vh_left x1 ((x2 + 1)) (((6 * x3) + q_38)) ((x4 + 1))) else (if (x2 + 1) = 1 then (if bw_in vh_groups 24 then (f_X5_parts_L12 fu ((vh_groups + 1)) vh_leftLong vh_all ((upd vh_words (Int32.toNatClampNeg vh_groups) (((6 * x3) + q_38)))) vh_left x1 0 0 ((x4 + 1))) else none) else (if (x2 + 1) = 2 then (if bw_in vh_groups 24 then (f_X5_parts_L12 fu ((vh_groups + 1)) vh_leftLong vh_all ((upd vh_words (Int32.toNatClampNeg vh_groups) ((6 + ((6 * x3) + q_38))))) vh_left x1 0 0 ((x4 + 1))) else none) else (if (x2 + 1) = 3 then (if bw_in vh_groups 24 then (f_X5_parts_L12 fu ((vh_groups + 1)) vh_leftLong vh_all ((upd vh_words (Int32.toNatClampNeg vh_groups) ((42 + ((6 * x3) + q_38))))) vh_left x1 0 0 ((x4 + 1))) else none) else (if bw_in vh_groups 24 then (f_X5_parts_L12 fu ((vh_groups + 1)) vh_leftLong vh_all ((upd vh_words (Int32.toNatClampNeg vh_groups) ((-1000006)))) vh_left x1 0 0 ((x4 + 1))) else none))))))) else ((f_X5_endsSeen vh_all x4 x1).bind fun q_48 => (if q_48 = 0 then (f_X5_parts_L12 fu vh_groups vh_leftLong vh_all vh_words vh_left x1 ((x2 + 1)) 0 ((x4 + 1))) else (if (x2 + 1) = 1 then (if bw_in vh_groups 24 then (f_X5_parts_L12 fu ((vh_groups + 1)) vh_leftLong vh_all ((upd vh_words (Int32.toNatClampNeg vh_groups) 0)) vh_left x1 0 0 ((x4 + 1))) else none) else (if (x2 + 1) = 2 then (if bw_in vh_groups 24 then (f_X5_parts_L12 fu ((vh_groups + 1)) vh_leftLong vh_all ((upd vh_words (Int32.toNatClampNeg vh_groups) ((6 + 0)))) vh_left x1 0 0 ((x4 + 1))) else none) else (if (x2 + 1) = 3 then (if bw_in vh_groups 24 then (f_X5_parts_L12 fu ((vh_groups + 1)) vh_leftLong vh_all ((upd vh_words (Int32.toNatClampNeg vh_groups) ((42 + 0)))) vh_left x1 0 0 ((x4 + 1))) else none) else (if bw_in vh_groups 24 then (f_X5_parts_L12 fu ((vh_groups + 1)) vh_leftLong vh_all ((upd vh_words (Int32.toNatClampNeg vh_groups) ((-1000006)))) vh_left x1 0 0 ((x4 + 1))) else none)))))))) else none)
set_option maxHeartbeats 4000000 in
set_option maxRecDepth 100000 in
theorem s_X5_parts_L12 (l : Launch) (g : bwG) (ah ah_all ah_kept ah_history ah_slots ah_isSaved ah_words ah_left ah_seen ah_text ah_signs ah_pauses : Nat) (fu : Nat) : ∀ (vh_historyLong : Int32) (vh_groups : Int32) (vh_leftLong : Int32) (vh_textLong : Int32) (vh_spot : Int32) (vh_read : Int32) (vh_all : Nat → Int32) (vh_words : Nat → Int32) (vh_left : Nat → Int32) (x1 : Int32) (x2 : Int32) (x3 : Int32) (x4 : Int32) (res : (Int32) × (Int32) × (Nat → Int32) × (Nat → Int32)), f_X5_parts_L12 fu vh_groups vh_leftLong vh_all vh_words vh_left x1 x2 x3 x4 = some res → bwR l g cX5_parts 5 RX5 "parts" none ({ frames := 1, cells := 0, slots := 0, locals := 23 } : Room) bwT (bwZ g (fun r w => r = none ∧ w = [(ah, .inr (5, [.ref ah_all, .ref ah_kept, .ref ah_history, .int vh_historyLong, .ref ah_slots, .ref ah_isSaved, .ref ah_words, .int res.1, .ref ah_left, .int res.2.1, .ref ah_seen, .ref ah_text, .int vh_textLong, .int vh_spot, .ref ah_signs, .ref ah_pauses, .int vh_read])), (ah_all, .inl (g.2.1, 120, .inl vh_all)), (ah_words, .inl (g.2.1, 24, .inl res.2.2.1)), (ah_left, .inl (g.2.1, 24, .inl res.2.2.2))]) 0 0) 12 [(0, .ref ah), (1, .int x1), (2, .int x2), (3, .int x3), (4, .int x4)] [] ([(ah, .inr (5, [.ref ah_all, .ref ah_kept, .ref ah_history, .int vh_historyLong, .ref ah_slots, .ref ah_isSaved, .ref ah_words, .int vh_groups, .ref ah_left, .int vh_leftLong, .ref ah_seen, .ref ah_text, .int vh_textLong, .int vh_spot, .ref ah_signs, .ref ah_pauses, .int vh_read])), (ah_all, .inl (g.2.1, 120, .inl vh_all)), (ah_words, .inl (g.2.1, 24, .inl vh_words)), (ah_left, .inl (g.2.1, 24, .inl vh_left))]) 0 0 := by
  induction fu with
  | zero => intro vh_historyLong vh_groups vh_leftLong vh_textLong vh_spot vh_read vh_all vh_words vh_left x1 x2 x3 x4 res hf; exact absurd hf (by intro h; cases h)
  | succ fu ih =>
    intro vh_historyLong vh_groups vh_leftLong vh_textLong vh_spot vh_read vh_all vh_words vh_left x1 x2 x3 x4 res hf
    rw [f_X5_parts_L12] at hf
    refine bw_iload 4 dX5_parts_12 rfl ?_
    refine bw_aload_n 0 dX5_parts_14 rfl rfl ?_
    refine bw_gf bkX5 0 0 (by decide) fl_X5_7 rfl rfl dX5_parts_15 ?_
    refine bw_iconst 3 dX5_parts_18 (by decide) ?_
    obtain ⟨h_35, hf⟩ := bw_chk hf
    refine bw_iald 1 rfl h_35 dX5_parts_19 ?_
    refine bw_icmp_ge 122 dX5_parts_20 (by decide) (fun c_36 => ?_) (fun c_36 => ?_)
    · have hf := bw_pos c_36 hf
      refine bw_aload_n 0 dX5_parts_122 rfl rfl ?_
      refine bw_iconst 0 dX5_parts_123 (by decide) ?_
      refine bw_pf bkX5 0 9 ([(ah, .inr (5, [.ref ah_all, .ref ah_kept, .ref ah_history, .int vh_historyLong, .ref ah_slots, .ref ah_isSaved, .ref ah_words, .int vh_groups, .ref ah_left, .int 0, .ref ah_seen, .ref ah_text, .int vh_textLong, .int vh_spot, .ref ah_signs, .ref ah_pauses, .int vh_read])), (ah_all, .inl (g.2.1, 120, .inl vh_all)), (ah_words, .inl (g.2.1, 24, .inl vh_words)), (ah_left, .inl (g.2.1, 24, .inl vh_left))]) (by decide) fl_X5_71 rfl rfl rfl rfl rfl (Nat.le_of_ble_eq_true rfl) rfl dX5_parts_124 ?_
      refine bw_iconst 0 dX5_parts_127 (by decide) ?_
      refine bw_istore [(4, .int 0), (0, .ref ah), (1, .int x1), (2, .int x2), (3, .int x3)] dX5_parts_128 (by decide) rfl ?_
      refine bw_lv [1, 2, 3, 4, 0] rfl ?_
      exact s_X5_parts_L130 l g ah ah_all ah_kept ah_history ah_slots ah_isSaved ah_words ah_left ah_seen ah_text ah_signs ah_pauses bw_F vh_historyLong vh_groups 0 vh_textLong vh_spot vh_read vh_all vh_words vh_left x1 x2 x3 0 _ hf
    · have hf := bw_neg c_36 hf
      refine bw_iinc 2 (x2 + 1) [(2, .int ((x2 + 1))), (0, .ref ah), (1, .int x1), (3, .int x3), (4, .int x4)] dX5_parts_23 rfl rfl (by decide) rfl ?_
      refine bw_iload_n 0 dX5_parts_26 rfl rfl ?_
      refine bw_iconst 3 dX5_parts_27 (by decide) ?_
      refine bw_icmp_le 35 dX5_parts_28 (by decide) (fun c_37 => ?_) (fun c_37 => ?_)
      · have hf := bw_pos c_37 hf
        refine bw_bipush 6 dX5_parts_35 (by decide) ?_
        refine bw_iload_n 3 dX5_parts_37 rfl rfl ?_
        refine bw_imul dX5_parts_38 ?_
        refine bw_aload_n 1 dX5_parts_39 rfl rfl ?_
        refine bw_iload 4 dX5_parts_40 rfl ?_
        refine bw_iload_n 2 dX5_parts_42 rfl rfl ?_
        obtain ⟨q_38, hc_38, hf⟩ := bw_bind hf
        refine bw_callV [.int x4, .int x1] [.int ((6 * x3))] [(ah_words, .inl (g.2.1, 24, .inl vh_words)), (ah_left, .inl (g.2.1, 24, .inl vh_left))] 0 5 (s_X5_signSeen l g ah ah_all ah_kept ah_history ah_slots ah_isSaved ah_words ah_left ah_seen ah_text ah_signs ah_pauses vh_historyLong vh_groups vh_leftLong vh_textLong vh_spot vh_read vh_all x4 x1 _ hc_38) rfl co_X5_signSeen ini_X5 ml_X5_62 im_X5_signSeen se_X5_signSeen ar_X5_signSeen ⟨Nat.le_of_ble_eq_true rfl, Nat.le_of_ble_eq_true rfl⟩ ⟨Nat.le_of_ble_eq_true rfl, Nat.le_of_ble_eq_true rfl⟩ rfl rfl (bw_pick1 4 [0, 1, 2, 3] rfl rfl (by decide)) (Nat.le_of_ble_eq_true rfl) dX5_parts_43 (fun r w1 hq => ?_)
        obtain ⟨rfl, rfl⟩ := hq
        refine bw_perm (ws1 := [(ah, .inr (5, [.ref ah_all, .ref ah_kept, .ref ah_history, .int vh_historyLong, .ref ah_slots, .ref ah_isSaved, .ref ah_words, .int vh_groups, .ref ah_left, .int vh_leftLong, .ref ah_seen, .ref ah_text, .int vh_textLong, .int vh_spot, .ref ah_signs, .ref ah_pauses, .int vh_read])), (ah_all, .inl (g.2.1, 120, .inl vh_all)), (ah_words, .inl (g.2.1, 24, .inl vh_words)), (ah_left, .inl (g.2.1, 24, .inl vh_left))]) (bw_pick1 4 [2, 3, 0, 1] rfl rfl (by decide)) ?_
        refine bw_st (st1 := [.int q_38, .int ((6 * x3))]) rfl ?_
        refine bw_iadd dX5_parts_46 ?_
        refine bw_istore_n [(3, .int (((6 * x3) + q_38))), (2, .int ((x2 + 1))), (0, .ref ah), (1, .int x1), (4, .int x4)] dX5_parts_47 rfl (by decide) rfl ?_
        refine bw_aload_n 2 dX5_parts_48 rfl rfl ?_
        refine bw_iload 4 dX5_parts_49 rfl ?_
        refine bw_iload_n 3 dX5_parts_51 rfl rfl ?_
        obtain ⟨q_39, hc_39, hf⟩ := bw_bind hf
        refine bw_callV [.int x4, .int x1] [] [(ah_words, .inl (g.2.1, 24, .inl vh_words)), (ah_left, .inl (g.2.1, 24, .inl vh_left))] 0 5 (s_X5_endsSeen l g ah ah_all ah_kept ah_history ah_slots ah_isSaved ah_words ah_left ah_seen ah_text ah_signs ah_pauses vh_historyLong vh_groups vh_leftLong vh_textLong vh_spot vh_read vh_all x4 x1 _ hc_39) rfl co_X5_endsSeen ini_X5 ml_X5_66 im_X5_endsSeen se_X5_endsSeen ar_X5_endsSeen ⟨Nat.le_of_ble_eq_true rfl, Nat.le_of_ble_eq_true rfl⟩ ⟨Nat.le_of_ble_eq_true rfl, Nat.le_of_ble_eq_true rfl⟩ rfl rfl (bw_pick1 4 [0, 1, 2, 3] rfl rfl (by decide)) (Nat.le_of_ble_eq_true rfl) dX5_parts_52 (fun r w1 hq => ?_)
        obtain ⟨rfl, rfl⟩ := hq
        refine bw_perm (ws1 := [(ah, .inr (5, [.ref ah_all, .ref ah_kept, .ref ah_history, .int vh_historyLong, .ref ah_slots, .ref ah_isSaved, .ref ah_words, .int vh_groups, .ref ah_left, .int vh_leftLong, .ref ah_seen, .ref ah_text, .int vh_textLong, .int vh_spot, .ref ah_signs, .ref ah_pauses, .int vh_read])), (ah_all, .inl (g.2.1, 120, .inl vh_all)), (ah_words, .inl (g.2.1, 24, .inl vh_words)), (ah_left, .inl (g.2.1, 24, .inl vh_left))]) (bw_pick1 4 [2, 3, 0, 1] rfl rfl (by decide)) ?_
        refine bw_st (st1 := [.int q_39]) rfl ?_
        refine bw_if_eq 116 dX5_parts_55 (by decide) (fun c_40 => ?_) (fun c_40 => ?_)
        · have hf := bw_pos c_40 hf
          refine bw_iinc 4 (x4 + 1) [(4, .int ((x4 + 1))), (3, .int (((6 * x3) + q_38))), (2, .int ((x2 + 1))), (0, .ref ah), (1, .int x1)] dX5_parts_116 rfl rfl (by decide) rfl ?_
          refine bw_goto 12 dX5_parts_119 (by decide) ?_
          refine bw_lv [3, 4, 2, 1, 0] rfl ?_
          exact ih vh_historyLong vh_groups vh_leftLong vh_textLong vh_spot vh_read vh_all vh_words vh_left x1 ((x2 + 1)) (((6 * x3) + q_38)) ((x4 + 1)) _ hf
        · have hf := bw_neg c_40 hf
          refine bw_aload_n 2 dX5_parts_58 rfl rfl ?_
          refine bw_gf bkX5 0 6 (by decide) fl_X5_25 rfl rfl dX5_parts_59 ?_
          refine bw_aload_n 2 dX5_parts_62 rfl rfl ?_
          refine bw_gf bkX5 0 7 (by decide) fl_X5_59 rfl rfl dX5_parts_63 ?_
          refine bw_iload_n 1 dX5_parts_66 rfl rfl ?_
          refine bw_iconst 1 dX5_parts_67 (by decide) ?_
          refine bw_icmp_ne 75 dX5_parts_68 (by decide) (fun c_41 => ?_) (fun c_41 => ?_)
          · have hf := bw_neg c_41 hf
            refine bw_iload_n 1 dX5_parts_75 rfl rfl ?_
            refine bw_iconst 2 dX5_parts_76 (by decide) ?_
            refine bw_icmp_ne 87 dX5_parts_77 (by decide) (fun c_42 => ?_) (fun c_42 => ?_)
            · have hf := bw_neg c_42 hf
              refine bw_iload_n 1 dX5_parts_87 rfl rfl ?_
              refine bw_iconst 3 dX5_parts_88 (by decide) ?_
              refine bw_icmp_ne 99 dX5_parts_89 (by decide) (fun c_43 => ?_) (fun c_43 => ?_)
              · have hf := bw_neg c_43 hf
                refine bw_ldc ct_X5_70 dX5_parts_99 ?_
                obtain ⟨h_44, hf⟩ := bw_chk hf
                refine bw_iast 2 ([(ah, .inr (5, [.ref ah_all, .ref ah_kept, .ref ah_history, .int vh_historyLong, .ref ah_slots, .ref ah_isSaved, .ref ah_words, .int vh_groups, .ref ah_left, .int vh_leftLong, .ref ah_seen, .ref ah_text, .int vh_textLong, .int vh_spot, .ref ah_signs, .ref ah_pauses, .int vh_read])), (ah_all, .inl (g.2.1, 120, .inl vh_all)), (ah_words, .inl (g.2.1, 24, .inl ((upd vh_words (Int32.toNatClampNeg vh_groups) ((-1000006)))))), (ah_left, .inl (g.2.1, 24, .inl vh_left))]) rfl h_44 rfl dX5_parts_101 ?_
                refine bw_aload_n 2 dX5_parts_102 rfl rfl ?_
                refine bw_dup dX5_parts_103 rfl ?_
                refine bw_gf bkX5 0 7 (by decide) fl_X5_59 rfl rfl dX5_parts_104 ?_
                refine bw_iconst 1 dX5_parts_107 (by decide) ?_
                refine bw_iadd dX5_parts_108 ?_
                refine bw_pf bkX5 0 7 ([(ah, .inr (5, [.ref ah_all, .ref ah_kept, .ref ah_history, .int vh_historyLong, .ref ah_slots, .ref ah_isSaved, .ref ah_words, .int ((vh_groups + 1)), .ref ah_left, .int vh_leftLong, .ref ah_seen, .ref ah_text, .int vh_textLong, .int vh_spot, .ref ah_signs, .ref ah_pauses, .int vh_read])), (ah_all, .inl (g.2.1, 120, .inl vh_all)), (ah_words, .inl (g.2.1, 24, .inl ((upd vh_words (Int32.toNatClampNeg vh_groups) ((-1000006)))))), (ah_left, .inl (g.2.1, 24, .inl vh_left))]) (by decide) fl_X5_59 rfl rfl rfl rfl rfl (Nat.le_of_ble_eq_true rfl) rfl dX5_parts_109 ?_
                refine bw_iconst 0 dX5_parts_112 (by decide) ?_
                refine bw_istore_n [(2, .int 0), (3, .int (((6 * x3) + q_38))), (0, .ref ah), (1, .int x1), (4, .int x4)] dX5_parts_113 rfl (by decide) rfl ?_
                refine bw_iconst 0 dX5_parts_114 (by decide) ?_
                refine bw_istore_n [(3, .int 0), (2, .int 0), (0, .ref ah), (1, .int x1), (4, .int x4)] dX5_parts_115 rfl (by decide) rfl ?_
                refine bw_iinc 4 (x4 + 1) [(4, .int ((x4 + 1))), (3, .int 0), (2, .int 0), (0, .ref ah), (1, .int x1)] dX5_parts_116 rfl rfl (by decide) rfl ?_
                refine bw_goto 12 dX5_parts_119 (by decide) ?_
                refine bw_lv [3, 4, 2, 1, 0] rfl ?_
                exact ih vh_historyLong ((vh_groups + 1)) vh_leftLong vh_textLong vh_spot vh_read vh_all ((upd vh_words (Int32.toNatClampNeg vh_groups) ((-1000006)))) vh_left x1 0 0 ((x4 + 1)) _ hf
              · have hf := bw_pos c_43 hf
                refine bw_bipush 42 dX5_parts_92 (by decide) ?_
                refine bw_iload_n 0 dX5_parts_94 rfl rfl ?_
                refine bw_iadd dX5_parts_95 ?_
                refine bw_goto 101 dX5_parts_96 (by decide) ?_
                obtain ⟨h_45, hf⟩ := bw_chk hf
                refine bw_iast 2 ([(ah, .inr (5, [.ref ah_all, .ref ah_kept, .ref ah_history, .int vh_historyLong, .ref ah_slots, .ref ah_isSaved, .ref ah_words, .int vh_groups, .ref ah_left, .int vh_leftLong, .ref ah_seen, .ref ah_text, .int vh_textLong, .int vh_spot, .ref ah_signs, .ref ah_pauses, .int vh_read])), (ah_all, .inl (g.2.1, 120, .inl vh_all)), (ah_words, .inl (g.2.1, 24, .inl ((upd vh_words (Int32.toNatClampNeg vh_groups) ((42 + ((6 * x3) + q_38))))))), (ah_left, .inl (g.2.1, 24, .inl vh_left))]) rfl h_45 rfl dX5_parts_101 ?_
                refine bw_aload_n 2 dX5_parts_102 rfl rfl ?_
                refine bw_dup dX5_parts_103 rfl ?_
                refine bw_gf bkX5 0 7 (by decide) fl_X5_59 rfl rfl dX5_parts_104 ?_
                refine bw_iconst 1 dX5_parts_107 (by decide) ?_
                refine bw_iadd dX5_parts_108 ?_
                refine bw_pf bkX5 0 7 ([(ah, .inr (5, [.ref ah_all, .ref ah_kept, .ref ah_history, .int vh_historyLong, .ref ah_slots, .ref ah_isSaved, .ref ah_words, .int ((vh_groups + 1)), .ref ah_left, .int vh_leftLong, .ref ah_seen, .ref ah_text, .int vh_textLong, .int vh_spot, .ref ah_signs, .ref ah_pauses, .int vh_read])), (ah_all, .inl (g.2.1, 120, .inl vh_all)), (ah_words, .inl (g.2.1, 24, .inl ((upd vh_words (Int32.toNatClampNeg vh_groups) ((42 + ((6 * x3) + q_38))))))), (ah_left, .inl (g.2.1, 24, .inl vh_left))]) (by decide) fl_X5_59 rfl rfl rfl rfl rfl (Nat.le_of_ble_eq_true rfl) rfl dX5_parts_109 ?_
                refine bw_iconst 0 dX5_parts_112 (by decide) ?_
                refine bw_istore_n [(2, .int 0), (3, .int (((6 * x3) + q_38))), (0, .ref ah), (1, .int x1), (4, .int x4)] dX5_parts_113 rfl (by decide) rfl ?_
                refine bw_iconst 0 dX5_parts_114 (by decide) ?_
                refine bw_istore_n [(3, .int 0), (2, .int 0), (0, .ref ah), (1, .int x1), (4, .int x4)] dX5_parts_115 rfl (by decide) rfl ?_
                refine bw_iinc 4 (x4 + 1) [(4, .int ((x4 + 1))), (3, .int 0), (2, .int 0), (0, .ref ah), (1, .int x1)] dX5_parts_116 rfl rfl (by decide) rfl ?_
                refine bw_goto 12 dX5_parts_119 (by decide) ?_
                refine bw_lv [3, 4, 2, 1, 0] rfl ?_
                exact ih vh_historyLong ((vh_groups + 1)) vh_leftLong vh_textLong vh_spot vh_read vh_all ((upd vh_words (Int32.toNatClampNeg vh_groups) ((42 + ((6 * x3) + q_38))))) vh_left x1 0 0 ((x4 + 1)) _ hf
            · have hf := bw_pos c_42 hf
              refine bw_bipush 6 dX5_parts_80 (by decide) ?_
              refine bw_iload_n 0 dX5_parts_82 rfl rfl ?_
              refine bw_iadd dX5_parts_83 ?_
              refine bw_goto 101 dX5_parts_84 (by decide) ?_
              obtain ⟨h_46, hf⟩ := bw_chk hf
              refine bw_iast 2 ([(ah, .inr (5, [.ref ah_all, .ref ah_kept, .ref ah_history, .int vh_historyLong, .ref ah_slots, .ref ah_isSaved, .ref ah_words, .int vh_groups, .ref ah_left, .int vh_leftLong, .ref ah_seen, .ref ah_text, .int vh_textLong, .int vh_spot, .ref ah_signs, .ref ah_pauses, .int vh_read])), (ah_all, .inl (g.2.1, 120, .inl vh_all)), (ah_words, .inl (g.2.1, 24, .inl ((upd vh_words (Int32.toNatClampNeg vh_groups) ((6 + ((6 * x3) + q_38))))))), (ah_left, .inl (g.2.1, 24, .inl vh_left))]) rfl h_46 rfl dX5_parts_101 ?_
              refine bw_aload_n 2 dX5_parts_102 rfl rfl ?_
              refine bw_dup dX5_parts_103 rfl ?_
              refine bw_gf bkX5 0 7 (by decide) fl_X5_59 rfl rfl dX5_parts_104 ?_
              refine bw_iconst 1 dX5_parts_107 (by decide) ?_
              refine bw_iadd dX5_parts_108 ?_
              refine bw_pf bkX5 0 7 ([(ah, .inr (5, [.ref ah_all, .ref ah_kept, .ref ah_history, .int vh_historyLong, .ref ah_slots, .ref ah_isSaved, .ref ah_words, .int ((vh_groups + 1)), .ref ah_left, .int vh_leftLong, .ref ah_seen, .ref ah_text, .int vh_textLong, .int vh_spot, .ref ah_signs, .ref ah_pauses, .int vh_read])), (ah_all, .inl (g.2.1, 120, .inl vh_all)), (ah_words, .inl (g.2.1, 24, .inl ((upd vh_words (Int32.toNatClampNeg vh_groups) ((6 + ((6 * x3) + q_38))))))), (ah_left, .inl (g.2.1, 24, .inl vh_left))]) (by decide) fl_X5_59 rfl rfl rfl rfl rfl (Nat.le_of_ble_eq_true rfl) rfl dX5_parts_109 ?_
              refine bw_iconst 0 dX5_parts_112 (by decide) ?_
              refine bw_istore_n [(2, .int 0), (3, .int (((6 * x3) + q_38))), (0, .ref ah), (1, .int x1), (4, .int x4)] dX5_parts_113 rfl (by decide) rfl ?_
              refine bw_iconst 0 dX5_parts_114 (by decide) ?_
              refine bw_istore_n [(3, .int 0), (2, .int 0), (0, .ref ah), (1, .int x1), (4, .int x4)] dX5_parts_115 rfl (by decide) rfl ?_
              refine bw_iinc 4 (x4 + 1) [(4, .int ((x4 + 1))), (3, .int 0), (2, .int 0), (0, .ref ah), (1, .int x1)] dX5_parts_116 rfl rfl (by decide) rfl ?_
              refine bw_goto 12 dX5_parts_119 (by decide) ?_
              refine bw_lv [3, 4, 2, 1, 0] rfl ?_
              exact ih vh_historyLong ((vh_groups + 1)) vh_leftLong vh_textLong vh_spot vh_read vh_all ((upd vh_words (Int32.toNatClampNeg vh_groups) ((6 + ((6 * x3) + q_38))))) vh_left x1 0 0 ((x4 + 1)) _ hf
          · have hf := bw_pos c_41 hf
            refine bw_iload_n 0 dX5_parts_71 rfl rfl ?_
            refine bw_goto 101 dX5_parts_72 (by decide) ?_
            obtain ⟨h_47, hf⟩ := bw_chk hf
            refine bw_iast 2 ([(ah, .inr (5, [.ref ah_all, .ref ah_kept, .ref ah_history, .int vh_historyLong, .ref ah_slots, .ref ah_isSaved, .ref ah_words, .int vh_groups, .ref ah_left, .int vh_leftLong, .ref ah_seen, .ref ah_text, .int vh_textLong, .int vh_spot, .ref ah_signs, .ref ah_pauses, .int vh_read])), (ah_all, .inl (g.2.1, 120, .inl vh_all)), (ah_words, .inl (g.2.1, 24, .inl ((upd vh_words (Int32.toNatClampNeg vh_groups) (((6 * x3) + q_38)))))), (ah_left, .inl (g.2.1, 24, .inl vh_left))]) rfl h_47 rfl dX5_parts_101 ?_
            refine bw_aload_n 2 dX5_parts_102 rfl rfl ?_
            refine bw_dup dX5_parts_103 rfl ?_
            refine bw_gf bkX5 0 7 (by decide) fl_X5_59 rfl rfl dX5_parts_104 ?_
            refine bw_iconst 1 dX5_parts_107 (by decide) ?_
            refine bw_iadd dX5_parts_108 ?_
            refine bw_pf bkX5 0 7 ([(ah, .inr (5, [.ref ah_all, .ref ah_kept, .ref ah_history, .int vh_historyLong, .ref ah_slots, .ref ah_isSaved, .ref ah_words, .int ((vh_groups + 1)), .ref ah_left, .int vh_leftLong, .ref ah_seen, .ref ah_text, .int vh_textLong, .int vh_spot, .ref ah_signs, .ref ah_pauses, .int vh_read])), (ah_all, .inl (g.2.1, 120, .inl vh_all)), (ah_words, .inl (g.2.1, 24, .inl ((upd vh_words (Int32.toNatClampNeg vh_groups) (((6 * x3) + q_38)))))), (ah_left, .inl (g.2.1, 24, .inl vh_left))]) (by decide) fl_X5_59 rfl rfl rfl rfl rfl (Nat.le_of_ble_eq_true rfl) rfl dX5_parts_109 ?_
            refine bw_iconst 0 dX5_parts_112 (by decide) ?_
            refine bw_istore_n [(2, .int 0), (3, .int (((6 * x3) + q_38))), (0, .ref ah), (1, .int x1), (4, .int x4)] dX5_parts_113 rfl (by decide) rfl ?_
            refine bw_iconst 0 dX5_parts_114 (by decide) ?_
            refine bw_istore_n [(3, .int 0), (2, .int 0), (0, .ref ah), (1, .int x1), (4, .int x4)] dX5_parts_115 rfl (by decide) rfl ?_
            refine bw_iinc 4 (x4 + 1) [(4, .int ((x4 + 1))), (3, .int 0), (2, .int 0), (0, .ref ah), (1, .int x1)] dX5_parts_116 rfl rfl (by decide) rfl ?_
            refine bw_goto 12 dX5_parts_119 (by decide) ?_
            refine bw_lv [3, 4, 2, 1, 0] rfl ?_
            exact ih vh_historyLong ((vh_groups + 1)) vh_leftLong vh_textLong vh_spot vh_read vh_all ((upd vh_words (Int32.toNatClampNeg vh_groups) (((6 * x3) + q_38)))) vh_left x1 0 0 ((x4 + 1)) _ hf
      · have hf := bw_neg c_37 hf
        refine bw_iconst 0 dX5_parts_31 (by decide) ?_
        refine bw_goto 47 dX5_parts_32 (by decide) ?_
        refine bw_istore_n [(3, .int 0), (2, .int ((x2 + 1))), (0, .ref ah), (1, .int x1), (4, .int x4)] dX5_parts_47 rfl (by decide) rfl ?_
        refine bw_aload_n 2 dX5_parts_48 rfl rfl ?_
        refine bw_iload 4 dX5_parts_49 rfl ?_
        refine bw_iload_n 3 dX5_parts_51 rfl rfl ?_
        obtain ⟨q_48, hc_48, hf⟩ := bw_bind hf
        refine bw_callV [.int x4, .int x1] [] [(ah_words, .inl (g.2.1, 24, .inl vh_words)), (ah_left, .inl (g.2.1, 24, .inl vh_left))] 0 5 (s_X5_endsSeen l g ah ah_all ah_kept ah_history ah_slots ah_isSaved ah_words ah_left ah_seen ah_text ah_signs ah_pauses vh_historyLong vh_groups vh_leftLong vh_textLong vh_spot vh_read vh_all x4 x1 _ hc_48) rfl co_X5_endsSeen ini_X5 ml_X5_66 im_X5_endsSeen se_X5_endsSeen ar_X5_endsSeen ⟨Nat.le_of_ble_eq_true rfl, Nat.le_of_ble_eq_true rfl⟩ ⟨Nat.le_of_ble_eq_true rfl, Nat.le_of_ble_eq_true rfl⟩ rfl rfl (bw_pick1 4 [0, 1, 2, 3] rfl rfl (by decide)) (Nat.le_of_ble_eq_true rfl) dX5_parts_52 (fun r w1 hq => ?_)
        obtain ⟨rfl, rfl⟩ := hq
        refine bw_perm (ws1 := [(ah, .inr (5, [.ref ah_all, .ref ah_kept, .ref ah_history, .int vh_historyLong, .ref ah_slots, .ref ah_isSaved, .ref ah_words, .int vh_groups, .ref ah_left, .int vh_leftLong, .ref ah_seen, .ref ah_text, .int vh_textLong, .int vh_spot, .ref ah_signs, .ref ah_pauses, .int vh_read])), (ah_all, .inl (g.2.1, 120, .inl vh_all)), (ah_words, .inl (g.2.1, 24, .inl vh_words)), (ah_left, .inl (g.2.1, 24, .inl vh_left))]) (bw_pick1 4 [2, 3, 0, 1] rfl rfl (by decide)) ?_
        refine bw_st (st1 := [.int q_48]) rfl ?_
        refine bw_if_eq 116 dX5_parts_55 (by decide) (fun c_49 => ?_) (fun c_49 => ?_)
        · have hf := bw_pos c_49 hf
          refine bw_iinc 4 (x4 + 1) [(4, .int ((x4 + 1))), (3, .int 0), (2, .int ((x2 + 1))), (0, .ref ah), (1, .int x1)] dX5_parts_116 rfl rfl (by decide) rfl ?_
          refine bw_goto 12 dX5_parts_119 (by decide) ?_
          refine bw_lv [3, 4, 2, 1, 0] rfl ?_
          exact ih vh_historyLong vh_groups vh_leftLong vh_textLong vh_spot vh_read vh_all vh_words vh_left x1 ((x2 + 1)) 0 ((x4 + 1)) _ hf
        · have hf := bw_neg c_49 hf
          refine bw_aload_n 2 dX5_parts_58 rfl rfl ?_
          refine bw_gf bkX5 0 6 (by decide) fl_X5_25 rfl rfl dX5_parts_59 ?_
          refine bw_aload_n 2 dX5_parts_62 rfl rfl ?_
          refine bw_gf bkX5 0 7 (by decide) fl_X5_59 rfl rfl dX5_parts_63 ?_
          refine bw_iload_n 1 dX5_parts_66 rfl rfl ?_
          refine bw_iconst 1 dX5_parts_67 (by decide) ?_
          refine bw_icmp_ne 75 dX5_parts_68 (by decide) (fun c_50 => ?_) (fun c_50 => ?_)
          · have hf := bw_neg c_50 hf
            refine bw_iload_n 1 dX5_parts_75 rfl rfl ?_
            refine bw_iconst 2 dX5_parts_76 (by decide) ?_
            refine bw_icmp_ne 87 dX5_parts_77 (by decide) (fun c_51 => ?_) (fun c_51 => ?_)
            · have hf := bw_neg c_51 hf
              refine bw_iload_n 1 dX5_parts_87 rfl rfl ?_
              refine bw_iconst 3 dX5_parts_88 (by decide) ?_
              refine bw_icmp_ne 99 dX5_parts_89 (by decide) (fun c_52 => ?_) (fun c_52 => ?_)
              · have hf := bw_neg c_52 hf
                refine bw_ldc ct_X5_70 dX5_parts_99 ?_
                obtain ⟨h_53, hf⟩ := bw_chk hf
                refine bw_iast 2 ([(ah, .inr (5, [.ref ah_all, .ref ah_kept, .ref ah_history, .int vh_historyLong, .ref ah_slots, .ref ah_isSaved, .ref ah_words, .int vh_groups, .ref ah_left, .int vh_leftLong, .ref ah_seen, .ref ah_text, .int vh_textLong, .int vh_spot, .ref ah_signs, .ref ah_pauses, .int vh_read])), (ah_all, .inl (g.2.1, 120, .inl vh_all)), (ah_words, .inl (g.2.1, 24, .inl ((upd vh_words (Int32.toNatClampNeg vh_groups) ((-1000006)))))), (ah_left, .inl (g.2.1, 24, .inl vh_left))]) rfl h_53 rfl dX5_parts_101 ?_
                refine bw_aload_n 2 dX5_parts_102 rfl rfl ?_
                refine bw_dup dX5_parts_103 rfl ?_
                refine bw_gf bkX5 0 7 (by decide) fl_X5_59 rfl rfl dX5_parts_104 ?_
                refine bw_iconst 1 dX5_parts_107 (by decide) ?_
                refine bw_iadd dX5_parts_108 ?_
                refine bw_pf bkX5 0 7 ([(ah, .inr (5, [.ref ah_all, .ref ah_kept, .ref ah_history, .int vh_historyLong, .ref ah_slots, .ref ah_isSaved, .ref ah_words, .int ((vh_groups + 1)), .ref ah_left, .int vh_leftLong, .ref ah_seen, .ref ah_text, .int vh_textLong, .int vh_spot, .ref ah_signs, .ref ah_pauses, .int vh_read])), (ah_all, .inl (g.2.1, 120, .inl vh_all)), (ah_words, .inl (g.2.1, 24, .inl ((upd vh_words (Int32.toNatClampNeg vh_groups) ((-1000006)))))), (ah_left, .inl (g.2.1, 24, .inl vh_left))]) (by decide) fl_X5_59 rfl rfl rfl rfl rfl (Nat.le_of_ble_eq_true rfl) rfl dX5_parts_109 ?_
                refine bw_iconst 0 dX5_parts_112 (by decide) ?_
                refine bw_istore_n [(2, .int 0), (3, .int 0), (0, .ref ah), (1, .int x1), (4, .int x4)] dX5_parts_113 rfl (by decide) rfl ?_
                refine bw_iconst 0 dX5_parts_114 (by decide) ?_
                refine bw_istore_n [(3, .int 0), (2, .int 0), (0, .ref ah), (1, .int x1), (4, .int x4)] dX5_parts_115 rfl (by decide) rfl ?_
                refine bw_iinc 4 (x4 + 1) [(4, .int ((x4 + 1))), (3, .int 0), (2, .int 0), (0, .ref ah), (1, .int x1)] dX5_parts_116 rfl rfl (by decide) rfl ?_
                refine bw_goto 12 dX5_parts_119 (by decide) ?_
                refine bw_lv [3, 4, 2, 1, 0] rfl ?_
                exact ih vh_historyLong ((vh_groups + 1)) vh_leftLong vh_textLong vh_spot vh_read vh_all ((upd vh_words (Int32.toNatClampNeg vh_groups) ((-1000006)))) vh_left x1 0 0 ((x4 + 1)) _ hf
              · have hf := bw_pos c_52 hf
                refine bw_bipush 42 dX5_parts_92 (by decide) ?_
                refine bw_iload_n 0 dX5_parts_94 rfl rfl ?_
                refine bw_iadd dX5_parts_95 ?_
                refine bw_goto 101 dX5_parts_96 (by decide) ?_
                obtain ⟨h_54, hf⟩ := bw_chk hf
                refine bw_iast 2 ([(ah, .inr (5, [.ref ah_all, .ref ah_kept, .ref ah_history, .int vh_historyLong, .ref ah_slots, .ref ah_isSaved, .ref ah_words, .int vh_groups, .ref ah_left, .int vh_leftLong, .ref ah_seen, .ref ah_text, .int vh_textLong, .int vh_spot, .ref ah_signs, .ref ah_pauses, .int vh_read])), (ah_all, .inl (g.2.1, 120, .inl vh_all)), (ah_words, .inl (g.2.1, 24, .inl ((upd vh_words (Int32.toNatClampNeg vh_groups) ((42 + 0)))))), (ah_left, .inl (g.2.1, 24, .inl vh_left))]) rfl h_54 rfl dX5_parts_101 ?_
                refine bw_aload_n 2 dX5_parts_102 rfl rfl ?_
                refine bw_dup dX5_parts_103 rfl ?_
                refine bw_gf bkX5 0 7 (by decide) fl_X5_59 rfl rfl dX5_parts_104 ?_
                refine bw_iconst 1 dX5_parts_107 (by decide) ?_
                refine bw_iadd dX5_parts_108 ?_
                refine bw_pf bkX5 0 7 ([(ah, .inr (5, [.ref ah_all, .ref ah_kept, .ref ah_history, .int vh_historyLong, .ref ah_slots, .ref ah_isSaved, .ref ah_words, .int ((vh_groups + 1)), .ref ah_left, .int vh_leftLong, .ref ah_seen, .ref ah_text, .int vh_textLong, .int vh_spot, .ref ah_signs, .ref ah_pauses, .int vh_read])), (ah_all, .inl (g.2.1, 120, .inl vh_all)), (ah_words, .inl (g.2.1, 24, .inl ((upd vh_words (Int32.toNatClampNeg vh_groups) ((42 + 0)))))), (ah_left, .inl (g.2.1, 24, .inl vh_left))]) (by decide) fl_X5_59 rfl rfl rfl rfl rfl (Nat.le_of_ble_eq_true rfl) rfl dX5_parts_109 ?_
                refine bw_iconst 0 dX5_parts_112 (by decide) ?_
                refine bw_istore_n [(2, .int 0), (3, .int 0), (0, .ref ah), (1, .int x1), (4, .int x4)] dX5_parts_113 rfl (by decide) rfl ?_
                refine bw_iconst 0 dX5_parts_114 (by decide) ?_
                refine bw_istore_n [(3, .int 0), (2, .int 0), (0, .ref ah), (1, .int x1), (4, .int x4)] dX5_parts_115 rfl (by decide) rfl ?_
                refine bw_iinc 4 (x4 + 1) [(4, .int ((x4 + 1))), (3, .int 0), (2, .int 0), (0, .ref ah), (1, .int x1)] dX5_parts_116 rfl rfl (by decide) rfl ?_
                refine bw_goto 12 dX5_parts_119 (by decide) ?_
                refine bw_lv [3, 4, 2, 1, 0] rfl ?_
                exact ih vh_historyLong ((vh_groups + 1)) vh_leftLong vh_textLong vh_spot vh_read vh_all ((upd vh_words (Int32.toNatClampNeg vh_groups) ((42 + 0)))) vh_left x1 0 0 ((x4 + 1)) _ hf
            · have hf := bw_pos c_51 hf
              refine bw_bipush 6 dX5_parts_80 (by decide) ?_
              refine bw_iload_n 0 dX5_parts_82 rfl rfl ?_
              refine bw_iadd dX5_parts_83 ?_
              refine bw_goto 101 dX5_parts_84 (by decide) ?_
              obtain ⟨h_55, hf⟩ := bw_chk hf
              refine bw_iast 2 ([(ah, .inr (5, [.ref ah_all, .ref ah_kept, .ref ah_history, .int vh_historyLong, .ref ah_slots, .ref ah_isSaved, .ref ah_words, .int vh_groups, .ref ah_left, .int vh_leftLong, .ref ah_seen, .ref ah_text, .int vh_textLong, .int vh_spot, .ref ah_signs, .ref ah_pauses, .int vh_read])), (ah_all, .inl (g.2.1, 120, .inl vh_all)), (ah_words, .inl (g.2.1, 24, .inl ((upd vh_words (Int32.toNatClampNeg vh_groups) ((6 + 0)))))), (ah_left, .inl (g.2.1, 24, .inl vh_left))]) rfl h_55 rfl dX5_parts_101 ?_
              refine bw_aload_n 2 dX5_parts_102 rfl rfl ?_
              refine bw_dup dX5_parts_103 rfl ?_
              refine bw_gf bkX5 0 7 (by decide) fl_X5_59 rfl rfl dX5_parts_104 ?_
              refine bw_iconst 1 dX5_parts_107 (by decide) ?_
              refine bw_iadd dX5_parts_108 ?_
              refine bw_pf bkX5 0 7 ([(ah, .inr (5, [.ref ah_all, .ref ah_kept, .ref ah_history, .int vh_historyLong, .ref ah_slots, .ref ah_isSaved, .ref ah_words, .int ((vh_groups + 1)), .ref ah_left, .int vh_leftLong, .ref ah_seen, .ref ah_text, .int vh_textLong, .int vh_spot, .ref ah_signs, .ref ah_pauses, .int vh_read])), (ah_all, .inl (g.2.1, 120, .inl vh_all)), (ah_words, .inl (g.2.1, 24, .inl ((upd vh_words (Int32.toNatClampNeg vh_groups) ((6 + 0)))))), (ah_left, .inl (g.2.1, 24, .inl vh_left))]) (by decide) fl_X5_59 rfl rfl rfl rfl rfl (Nat.le_of_ble_eq_true rfl) rfl dX5_parts_109 ?_
              refine bw_iconst 0 dX5_parts_112 (by decide) ?_
              refine bw_istore_n [(2, .int 0), (3, .int 0), (0, .ref ah), (1, .int x1), (4, .int x4)] dX5_parts_113 rfl (by decide) rfl ?_
              refine bw_iconst 0 dX5_parts_114 (by decide) ?_
              refine bw_istore_n [(3, .int 0), (2, .int 0), (0, .ref ah), (1, .int x1), (4, .int x4)] dX5_parts_115 rfl (by decide) rfl ?_
              refine bw_iinc 4 (x4 + 1) [(4, .int ((x4 + 1))), (3, .int 0), (2, .int 0), (0, .ref ah), (1, .int x1)] dX5_parts_116 rfl rfl (by decide) rfl ?_
              refine bw_goto 12 dX5_parts_119 (by decide) ?_
              refine bw_lv [3, 4, 2, 1, 0] rfl ?_
              exact ih vh_historyLong ((vh_groups + 1)) vh_leftLong vh_textLong vh_spot vh_read vh_all ((upd vh_words (Int32.toNatClampNeg vh_groups) ((6 + 0)))) vh_left x1 0 0 ((x4 + 1)) _ hf
          · have hf := bw_pos c_50 hf
            refine bw_iload_n 0 dX5_parts_71 rfl rfl ?_
            refine bw_goto 101 dX5_parts_72 (by decide) ?_
            obtain ⟨h_56, hf⟩ := bw_chk hf
            refine bw_iast 2 ([(ah, .inr (5, [.ref ah_all, .ref ah_kept, .ref ah_history, .int vh_historyLong, .ref ah_slots, .ref ah_isSaved, .ref ah_words, .int vh_groups, .ref ah_left, .int vh_leftLong, .ref ah_seen, .ref ah_text, .int vh_textLong, .int vh_spot, .ref ah_signs, .ref ah_pauses, .int vh_read])), (ah_all, .inl (g.2.1, 120, .inl vh_all)), (ah_words, .inl (g.2.1, 24, .inl ((upd vh_words (Int32.toNatClampNeg vh_groups) 0)))), (ah_left, .inl (g.2.1, 24, .inl vh_left))]) rfl h_56 rfl dX5_parts_101 ?_
            refine bw_aload_n 2 dX5_parts_102 rfl rfl ?_
            refine bw_dup dX5_parts_103 rfl ?_
            refine bw_gf bkX5 0 7 (by decide) fl_X5_59 rfl rfl dX5_parts_104 ?_
            refine bw_iconst 1 dX5_parts_107 (by decide) ?_
            refine bw_iadd dX5_parts_108 ?_
            refine bw_pf bkX5 0 7 ([(ah, .inr (5, [.ref ah_all, .ref ah_kept, .ref ah_history, .int vh_historyLong, .ref ah_slots, .ref ah_isSaved, .ref ah_words, .int ((vh_groups + 1)), .ref ah_left, .int vh_leftLong, .ref ah_seen, .ref ah_text, .int vh_textLong, .int vh_spot, .ref ah_signs, .ref ah_pauses, .int vh_read])), (ah_all, .inl (g.2.1, 120, .inl vh_all)), (ah_words, .inl (g.2.1, 24, .inl ((upd vh_words (Int32.toNatClampNeg vh_groups) 0)))), (ah_left, .inl (g.2.1, 24, .inl vh_left))]) (by decide) fl_X5_59 rfl rfl rfl rfl rfl (Nat.le_of_ble_eq_true rfl) rfl dX5_parts_109 ?_
            refine bw_iconst 0 dX5_parts_112 (by decide) ?_
            refine bw_istore_n [(2, .int 0), (3, .int 0), (0, .ref ah), (1, .int x1), (4, .int x4)] dX5_parts_113 rfl (by decide) rfl ?_
            refine bw_iconst 0 dX5_parts_114 (by decide) ?_
            refine bw_istore_n [(3, .int 0), (2, .int 0), (0, .ref ah), (1, .int x1), (4, .int x4)] dX5_parts_115 rfl (by decide) rfl ?_
            refine bw_iinc 4 (x4 + 1) [(4, .int ((x4 + 1))), (3, .int 0), (2, .int 0), (0, .ref ah), (1, .int x1)] dX5_parts_116 rfl rfl (by decide) rfl ?_
            refine bw_goto 12 dX5_parts_119 (by decide) ?_
            refine bw_lv [3, 4, 2, 1, 0] rfl ?_
            exact ih vh_historyLong ((vh_groups + 1)) vh_leftLong vh_textLong vh_spot vh_read vh_all ((upd vh_words (Int32.toNatClampNeg vh_groups) 0)) vh_left x1 0 0 ((x4 + 1)) _ hf
theorem ar_X5_parts : yX5_parts.cls ≠ "java/lang/invoke/MethodHandle" ∧ yX5_parts.cls ≠ "java/lang/invoke/VarHandle" ∧ (parseMethodDescriptor yX5_parts.desc).map (fun d => d.parameters.length) = some 1 := ⟨by decide, by decide, by decide +kernel⟩
def f_X5_parts (vh_groups : Int32) (vh_leftLong : Int32) (vh_all : Nat → Int32) (vh_words : Nat → Int32) (vh_left : Nat → Int32) (p0 : Int32) : Option ((Int32) × (Int32) × (Nat → Int32) × (Nat → Int32)) := (f_X5_parts_L12 bw_F 0 vh_leftLong vh_all vh_words vh_left p0 0 0 0)
set_option maxHeartbeats 4000000 in
set_option maxRecDepth 100000 in
theorem s_X5_parts (l : Launch) (g : bwG) (ah ah_all ah_kept ah_history ah_slots ah_isSaved ah_words ah_left ah_seen ah_text ah_signs ah_pauses : Nat) (vh_historyLong : Int32) (vh_groups : Int32) (vh_leftLong : Int32) (vh_textLong : Int32) (vh_spot : Int32) (vh_read : Int32) (vh_all : Nat → Int32) (vh_words : Nat → Int32) (vh_left : Nat → Int32) (p0 : Int32) (res : (Int32) × (Int32) × (Nat → Int32) × (Nat → Int32)) (hf : f_X5_parts vh_groups vh_leftLong vh_all vh_words vh_left p0 = some res) : bwS l g yX5_parts cX5_parts 5 none ({ frames := 1, cells := 0, slots := 0, locals := 23 } : Room) [.ref ah, .int p0] ([(ah, .inr (5, [.ref ah_all, .ref ah_kept, .ref ah_history, .int vh_historyLong, .ref ah_slots, .ref ah_isSaved, .ref ah_words, .int vh_groups, .ref ah_left, .int vh_leftLong, .ref ah_seen, .ref ah_text, .int vh_textLong, .int vh_spot, .ref ah_signs, .ref ah_pauses, .int vh_read])), (ah_all, .inl (g.2.1, 120, .inl vh_all)), (ah_words, .inl (g.2.1, 24, .inl vh_words)), (ah_left, .inl (g.2.1, 24, .inl vh_left))]) (fun r w => r = none ∧ w = [(ah, .inr (5, [.ref ah_all, .ref ah_kept, .ref ah_history, .int vh_historyLong, .ref ah_slots, .ref ah_isSaved, .ref ah_words, .int res.1, .ref ah_left, .int res.2.1, .ref ah_seen, .ref ah_text, .int vh_textLong, .int vh_spot, .ref ah_signs, .ref ah_pauses, .int vh_read])), (ah_all, .inl (g.2.1, 120, .inl vh_all)), (ah_words, .inl (g.2.1, 24, .inl res.2.2.1)), (ah_left, .inl (g.2.1, 24, .inl res.2.2.2))]) := by
  refine bwS_of (by decide) (Nat.le_of_ble_eq_true rfl) ?_
  unfold f_X5_parts at hf
  show bwR l g cX5_parts 5 RX5 "parts" none ({ frames := 1, cells := 0, slots := 0, locals := 23 } : Room) bwT (bwZ g (fun r w => r = none ∧ w = [(ah, .inr (5, [.ref ah_all, .ref ah_kept, .ref ah_history, .int vh_historyLong, .ref ah_slots, .ref ah_isSaved, .ref ah_words, .int res.1, .ref ah_left, .int res.2.1, .ref ah_seen, .ref ah_text, .int vh_textLong, .int vh_spot, .ref ah_signs, .ref ah_pauses, .int vh_read])), (ah_all, .inl (g.2.1, 120, .inl vh_all)), (ah_words, .inl (g.2.1, 24, .inl res.2.2.1)), (ah_left, .inl (g.2.1, 24, .inl res.2.2.2))]) 0 0) 0 [(0, .ref ah), (1, .int p0)] [] ([(ah, .inr (5, [.ref ah_all, .ref ah_kept, .ref ah_history, .int vh_historyLong, .ref ah_slots, .ref ah_isSaved, .ref ah_words, .int vh_groups, .ref ah_left, .int vh_leftLong, .ref ah_seen, .ref ah_text, .int vh_textLong, .int vh_spot, .ref ah_signs, .ref ah_pauses, .int vh_read])), (ah_all, .inl (g.2.1, 120, .inl vh_all)), (ah_words, .inl (g.2.1, 24, .inl vh_words)), (ah_left, .inl (g.2.1, 24, .inl vh_left))]) 0 0
  refine bw_aload_n 0 dX5_parts_0 rfl rfl ?_
  refine bw_iconst 0 dX5_parts_1 (by decide) ?_
  refine bw_pf bkX5 0 7 ([(ah, .inr (5, [.ref ah_all, .ref ah_kept, .ref ah_history, .int vh_historyLong, .ref ah_slots, .ref ah_isSaved, .ref ah_words, .int 0, .ref ah_left, .int vh_leftLong, .ref ah_seen, .ref ah_text, .int vh_textLong, .int vh_spot, .ref ah_signs, .ref ah_pauses, .int vh_read])), (ah_all, .inl (g.2.1, 120, .inl vh_all)), (ah_words, .inl (g.2.1, 24, .inl vh_words)), (ah_left, .inl (g.2.1, 24, .inl vh_left))]) (by decide) fl_X5_59 rfl rfl rfl rfl rfl (Nat.le_of_ble_eq_true rfl) rfl dX5_parts_2 ?_
  refine bw_iconst 0 dX5_parts_5 (by decide) ?_
  refine bw_istore_n [(2, .int 0), (0, .ref ah), (1, .int p0)] dX5_parts_6 rfl (by decide) rfl ?_
  refine bw_iconst 0 dX5_parts_7 (by decide) ?_
  refine bw_istore_n [(3, .int 0), (2, .int 0), (0, .ref ah), (1, .int p0)] dX5_parts_8 rfl (by decide) rfl ?_
  refine bw_iconst 0 dX5_parts_9 (by decide) ?_
  refine bw_istore [(4, .int 0), (3, .int 0), (2, .int 0), (0, .ref ah), (1, .int p0)] dX5_parts_10 (by decide) rfl ?_
  refine bw_lv [3, 4, 2, 1, 0] rfl ?_
  exact s_X5_parts_L12 l g ah ah_all ah_kept ah_history ah_slots ah_isSaved ah_words ah_left ah_seen ah_text ah_signs ah_pauses bw_F vh_historyLong 0 vh_leftLong vh_textLong vh_spot vh_read vh_all vh_words vh_left p0 0 0 0 _ hf
def f_X5_isTooLong_L4 : Nat → (Int32) → (Nat → Int32) → (Int32) → (Int32) → Option (Int32)
  | 0, _, _, _, _ => none
  | fu + 1, vh_groups, vh_words, x1, x2 => (if vh_groups ≤ x2 then (if bw_nb x1 then some x1 else none) else (if x1 = 0 then (if bw_in x2 24 then (if (vh_words (Int32.toNatClampNeg x2)) = (-1000006) then (f_X5_isTooLong_L4 fu vh_groups vh_words 1 ((x2 + 1))) else (f_X5_isTooLong_L4 fu vh_groups vh_words 0 ((x2 + 1)))) else none) else (f_X5_isTooLong_L4 fu vh_groups vh_words 1 ((x2 + 1)))))
set_option maxHeartbeats 4000000 in
set_option maxRecDepth 100000 in
theorem s_X5_isTooLong_L4 (l : Launch) (g : bwG) (ah ah_all ah_kept ah_history ah_slots ah_isSaved ah_words ah_left ah_seen ah_text ah_signs ah_pauses : Nat) (fu : Nat) : ∀ (vh_historyLong : Int32) (vh_groups : Int32) (vh_leftLong : Int32) (vh_textLong : Int32) (vh_spot : Int32) (vh_read : Int32) (vh_words : Nat → Int32) (x1 : Int32) (x2 : Int32) (res : Int32), f_X5_isTooLong_L4 fu vh_groups vh_words x1 x2 = some res → bwR l g cX5_isTooLong 3 RX5 "isTooLong" (some .boolean) ({ frames := 0, cells := 0, slots := 0, locals := 0 } : Room) bwT (bwZ g (fun r w => r = some (.int res) ∧ w = [(ah, .inr (5, [.ref ah_all, .ref ah_kept, .ref ah_history, .int vh_historyLong, .ref ah_slots, .ref ah_isSaved, .ref ah_words, .int vh_groups, .ref ah_left, .int vh_leftLong, .ref ah_seen, .ref ah_text, .int vh_textLong, .int vh_spot, .ref ah_signs, .ref ah_pauses, .int vh_read])), (ah_words, .inl (g.2.1, 24, .inl vh_words))]) 0 0) 4 [(0, .ref ah), (1, .int x1), (2, .int x2)] [] ([(ah, .inr (5, [.ref ah_all, .ref ah_kept, .ref ah_history, .int vh_historyLong, .ref ah_slots, .ref ah_isSaved, .ref ah_words, .int vh_groups, .ref ah_left, .int vh_leftLong, .ref ah_seen, .ref ah_text, .int vh_textLong, .int vh_spot, .ref ah_signs, .ref ah_pauses, .int vh_read])), (ah_words, .inl (g.2.1, 24, .inl vh_words))]) 0 0 := by
  induction fu with
  | zero => intro vh_historyLong vh_groups vh_leftLong vh_textLong vh_spot vh_read vh_words x1 x2 res hf; exact absurd hf (by intro h; cases h)
  | succ fu ih =>
    intro vh_historyLong vh_groups vh_leftLong vh_textLong vh_spot vh_read vh_words x1 x2 res hf
    rw [f_X5_isTooLong_L4] at hf
    refine bw_iload_n 2 dX5_isTooLong_4 rfl rfl ?_
    refine bw_aload_n 0 dX5_isTooLong_5 rfl rfl ?_
    refine bw_gf bkX5 0 7 (by decide) fl_X5_59 rfl rfl dX5_isTooLong_6 ?_
    refine bw_icmp_ge 39 dX5_isTooLong_9 (by decide) (fun c_6 => ?_) (fun c_6 => ?_)
    · have hf := bw_pos c_6 hf
      refine bw_iload_n 1 dX5_isTooLong_39 rfl rfl ?_
      obtain ⟨h_7, hf⟩ := bw_chk hf
      cases Option.some.inj hf
      exact bw_ret rfl (bw_nbp h_7) (Nat.le_of_ble_eq_true rfl) (Nat.le_of_ble_eq_true rfl) dX5_isTooLong_40 ⟨rfl, rfl⟩
    · have hf := bw_neg c_6 hf
      refine bw_iload_n 1 dX5_isTooLong_12 rfl rfl ?_
      refine bw_if_ne 27 dX5_isTooLong_13 (by decide) (fun c_8 => ?_) (fun c_8 => ?_)
      · have hf := bw_neg c_8 hf
        refine bw_iconst 1 dX5_isTooLong_27 (by decide) ?_
        refine bw_goto 32 dX5_isTooLong_28 (by decide) ?_
        refine bw_istore_n [(1, .int 1), (0, .ref ah), (2, .int x2)] dX5_isTooLong_32 rfl (by decide) rfl ?_
        refine bw_iinc 2 (x2 + 1) [(2, .int ((x2 + 1))), (1, .int 1), (0, .ref ah)] dX5_isTooLong_33 rfl rfl (by decide) rfl ?_
        refine bw_goto 4 dX5_isTooLong_36 (by decide) ?_
        refine bw_lv [2, 1, 0] rfl ?_
        exact ih vh_historyLong vh_groups vh_leftLong vh_textLong vh_spot vh_read vh_words 1 ((x2 + 1)) _ hf
      · have hf := bw_pos c_8 hf
        refine bw_aload_n 0 dX5_isTooLong_16 rfl rfl ?_
        refine bw_gf bkX5 0 6 (by decide) fl_X5_25 rfl rfl dX5_isTooLong_17 ?_
        refine bw_iload_n 2 dX5_isTooLong_20 rfl rfl ?_
        obtain ⟨h_9, hf⟩ := bw_chk hf
        refine bw_iald 1 rfl h_9 dX5_isTooLong_21 ?_
        refine bw_ldc ct_X5_70 dX5_isTooLong_22 ?_
        refine bw_icmp_ne 31 dX5_isTooLong_24 (by decide) (fun c_10 => ?_) (fun c_10 => ?_)
        · have hf := bw_neg c_10 hf
          refine bw_iconst 0 dX5_isTooLong_31 (by decide) ?_
          refine bw_istore_n [(1, .int 0), (0, .ref ah), (2, .int x2)] dX5_isTooLong_32 rfl (by decide) rfl ?_
          refine bw_iinc 2 (x2 + 1) [(2, .int ((x2 + 1))), (1, .int 0), (0, .ref ah)] dX5_isTooLong_33 rfl rfl (by decide) rfl ?_
          refine bw_goto 4 dX5_isTooLong_36 (by decide) ?_
          refine bw_lv [2, 1, 0] rfl ?_
          exact ih vh_historyLong vh_groups vh_leftLong vh_textLong vh_spot vh_read vh_words 0 ((x2 + 1)) _ hf
        · have hf := bw_pos c_10 hf
          refine bw_iconst 1 dX5_isTooLong_27 (by decide) ?_
          refine bw_goto 32 dX5_isTooLong_28 (by decide) ?_
          refine bw_istore_n [(1, .int 1), (0, .ref ah), (2, .int x2)] dX5_isTooLong_32 rfl (by decide) rfl ?_
          refine bw_iinc 2 (x2 + 1) [(2, .int ((x2 + 1))), (1, .int 1), (0, .ref ah)] dX5_isTooLong_33 rfl rfl (by decide) rfl ?_
          refine bw_goto 4 dX5_isTooLong_36 (by decide) ?_
          refine bw_lv [2, 1, 0] rfl ?_
          exact ih vh_historyLong vh_groups vh_leftLong vh_textLong vh_spot vh_read vh_words 1 ((x2 + 1)) _ hf
theorem ar_X5_isTooLong : yX5_isTooLong.cls ≠ "java/lang/invoke/MethodHandle" ∧ yX5_isTooLong.cls ≠ "java/lang/invoke/VarHandle" ∧ (parseMethodDescriptor yX5_isTooLong.desc).map (fun d => d.parameters.length) = some 0 := ⟨by decide, by decide, by decide +kernel⟩
def f_X5_isTooLong (vh_groups : Int32) (vh_words : Nat → Int32)  : Option (Int32) := (f_X5_isTooLong_L4 bw_F vh_groups vh_words 0 0)
set_option maxHeartbeats 4000000 in
set_option maxRecDepth 100000 in
theorem s_X5_isTooLong (l : Launch) (g : bwG) (ah ah_all ah_kept ah_history ah_slots ah_isSaved ah_words ah_left ah_seen ah_text ah_signs ah_pauses : Nat) (vh_historyLong : Int32) (vh_groups : Int32) (vh_leftLong : Int32) (vh_textLong : Int32) (vh_spot : Int32) (vh_read : Int32) (vh_words : Nat → Int32)  (res : Int32) (hf : f_X5_isTooLong vh_groups vh_words  = some res) : bwS l g yX5_isTooLong cX5_isTooLong 3 (some .boolean) ({ frames := 0, cells := 0, slots := 0, locals := 0 } : Room) [.ref ah] ([(ah, .inr (5, [.ref ah_all, .ref ah_kept, .ref ah_history, .int vh_historyLong, .ref ah_slots, .ref ah_isSaved, .ref ah_words, .int vh_groups, .ref ah_left, .int vh_leftLong, .ref ah_seen, .ref ah_text, .int vh_textLong, .int vh_spot, .ref ah_signs, .ref ah_pauses, .int vh_read])), (ah_words, .inl (g.2.1, 24, .inl vh_words))]) (fun r w => r = some (.int res) ∧ w = [(ah, .inr (5, [.ref ah_all, .ref ah_kept, .ref ah_history, .int vh_historyLong, .ref ah_slots, .ref ah_isSaved, .ref ah_words, .int vh_groups, .ref ah_left, .int vh_leftLong, .ref ah_seen, .ref ah_text, .int vh_textLong, .int vh_spot, .ref ah_signs, .ref ah_pauses, .int vh_read])), (ah_words, .inl (g.2.1, 24, .inl vh_words))]) := by
  refine bwS_of (by decide) (Nat.le_of_ble_eq_true rfl) ?_
  unfold f_X5_isTooLong at hf
  show bwR l g cX5_isTooLong 3 RX5 "isTooLong" (some .boolean) ({ frames := 0, cells := 0, slots := 0, locals := 0 } : Room) bwT (bwZ g (fun r w => r = some (.int res) ∧ w = [(ah, .inr (5, [.ref ah_all, .ref ah_kept, .ref ah_history, .int vh_historyLong, .ref ah_slots, .ref ah_isSaved, .ref ah_words, .int vh_groups, .ref ah_left, .int vh_leftLong, .ref ah_seen, .ref ah_text, .int vh_textLong, .int vh_spot, .ref ah_signs, .ref ah_pauses, .int vh_read])), (ah_words, .inl (g.2.1, 24, .inl vh_words))]) 0 0) 0 [(0, .ref ah)] [] ([(ah, .inr (5, [.ref ah_all, .ref ah_kept, .ref ah_history, .int vh_historyLong, .ref ah_slots, .ref ah_isSaved, .ref ah_words, .int vh_groups, .ref ah_left, .int vh_leftLong, .ref ah_seen, .ref ah_text, .int vh_textLong, .int vh_spot, .ref ah_signs, .ref ah_pauses, .int vh_read])), (ah_words, .inl (g.2.1, 24, .inl vh_words))]) 0 0
  refine bw_iconst 0 dX5_isTooLong_0 (by decide) ?_
  refine bw_istore_n [(1, .int 0), (0, .ref ah)] dX5_isTooLong_1 rfl (by decide) rfl ?_
  refine bw_iconst 0 dX5_isTooLong_2 (by decide) ?_
  refine bw_istore_n [(2, .int 0), (1, .int 0), (0, .ref ah)] dX5_isTooLong_3 rfl (by decide) rfl ?_
  refine bw_lv [2, 1, 0] rfl ?_
  exact s_X5_isTooLong_L4 l g ah ah_all ah_kept ah_history ah_slots ah_isSaved ah_words ah_left ah_seen ah_text ah_signs ah_pauses bw_F vh_historyLong vh_groups vh_leftLong vh_textLong vh_spot vh_read vh_words 0 0 _ hf
theorem ar_X5_isRightThree : yX5_isRightThree.cls ≠ "java/lang/invoke/MethodHandle" ∧ yX5_isRightThree.cls ≠ "java/lang/invoke/VarHandle" ∧ (parseMethodDescriptor yX5_isRightThree.desc).map (fun d => d.parameters.length) = some 1 := ⟨by decide, by decide, by decide +kernel⟩
def f_X5_isRightThree (vh_left : Nat → Int32) (p0 : Int32) : Option (Int32) := (if bw_in p0 24 then ((f_X5_isCourtier ((vh_left (Int32.toNatClampNeg p0)))).bind fun q_11 => (if q_11 = 0 then some 0 else (if bw_in ((p0 + 1)) 24 then ((f_X5_isDeed ((vh_left (Int32.toNatClampNeg ((p0 + 1)))))).bind fun q_14 => (if q_14 = 0 then some 0 else (if bw_in ((p0 + 2)) 24 then ((f_X5_isCourtier ((vh_left (Int32.toNatClampNeg ((p0 + 2)))))).bind fun q_17 => (if q_17 = 0 then some 0 else some 1)) else none))) else none))) else none)
set_option maxHeartbeats 4000000 in
set_option maxRecDepth 100000 in
theorem s_X5_isRightThree (l : Launch) (g : bwG) (ah ah_all ah_kept ah_history ah_slots ah_isSaved ah_words ah_left ah_seen ah_text ah_signs ah_pauses : Nat) (vh_historyLong : Int32) (vh_groups : Int32) (vh_leftLong : Int32) (vh_textLong : Int32) (vh_spot : Int32) (vh_read : Int32) (vh_left : Nat → Int32) (p0 : Int32) (res : Int32) (hf : f_X5_isRightThree vh_left p0 = some res) : bwS l g yX5_isRightThree cX5_isRightThree 2 (some .boolean) ({ frames := 2, cells := 0, slots := 0, locals := 45 } : Room) [.ref ah, .int p0] ([(ah, .inr (5, [.ref ah_all, .ref ah_kept, .ref ah_history, .int vh_historyLong, .ref ah_slots, .ref ah_isSaved, .ref ah_words, .int vh_groups, .ref ah_left, .int vh_leftLong, .ref ah_seen, .ref ah_text, .int vh_textLong, .int vh_spot, .ref ah_signs, .ref ah_pauses, .int vh_read])), (ah_left, .inl (g.2.1, 24, .inl vh_left))]) (fun r w => r = some (.int res) ∧ w = [(ah, .inr (5, [.ref ah_all, .ref ah_kept, .ref ah_history, .int vh_historyLong, .ref ah_slots, .ref ah_isSaved, .ref ah_words, .int vh_groups, .ref ah_left, .int vh_leftLong, .ref ah_seen, .ref ah_text, .int vh_textLong, .int vh_spot, .ref ah_signs, .ref ah_pauses, .int vh_read])), (ah_left, .inl (g.2.1, 24, .inl vh_left))]) := by
  refine bwS_of (by decide) (Nat.le_of_ble_eq_true rfl) ?_
  unfold f_X5_isRightThree at hf
  show bwR l g cX5_isRightThree 2 RX5 "isRightThree" (some .boolean) ({ frames := 2, cells := 0, slots := 0, locals := 45 } : Room) bwT (bwZ g (fun r w => r = some (.int res) ∧ w = [(ah, .inr (5, [.ref ah_all, .ref ah_kept, .ref ah_history, .int vh_historyLong, .ref ah_slots, .ref ah_isSaved, .ref ah_words, .int vh_groups, .ref ah_left, .int vh_leftLong, .ref ah_seen, .ref ah_text, .int vh_textLong, .int vh_spot, .ref ah_signs, .ref ah_pauses, .int vh_read])), (ah_left, .inl (g.2.1, 24, .inl vh_left))]) 0 0) 0 [(0, .ref ah), (1, .int p0)] [] ([(ah, .inr (5, [.ref ah_all, .ref ah_kept, .ref ah_history, .int vh_historyLong, .ref ah_slots, .ref ah_isSaved, .ref ah_words, .int vh_groups, .ref ah_left, .int vh_leftLong, .ref ah_seen, .ref ah_text, .int vh_textLong, .int vh_spot, .ref ah_signs, .ref ah_pauses, .int vh_read])), (ah_left, .inl (g.2.1, 24, .inl vh_left))]) 0 0
  refine bw_aload_n 0 dX5_isRightThree_0 rfl rfl ?_
  refine bw_gf bkX5 0 8 (by decide) fl_X5_28 rfl rfl dX5_isRightThree_1 ?_
  refine bw_iload_n 1 dX5_isRightThree_4 rfl rfl ?_
  obtain ⟨h_10, hf⟩ := bw_chk hf
  refine bw_iald 1 rfl h_10 dX5_isRightThree_5 ?_
  obtain ⟨q_11, hc_11, hf⟩ := bw_bind hf
  refine bw_callS [.int ((vh_left (Int32.toNatClampNeg p0)))] [] [(ah, .inr (5, [.ref ah_all, .ref ah_kept, .ref ah_history, .int vh_historyLong, .ref ah_slots, .ref ah_isSaved, .ref ah_words, .int vh_groups, .ref ah_left, .int vh_leftLong, .ref ah_seen, .ref ah_text, .int vh_textLong, .int vh_spot, .ref ah_signs, .ref ah_pauses, .int vh_read])), (ah_left, .inl (g.2.1, 24, .inl vh_left))] (s_X5_isCourtier l g   ((vh_left (Int32.toNatClampNeg p0))) _ hc_11) rfl co_X5_isCourtier ini_X5 ml_X5_78 st_X5_isCourtier ar_X5_isCourtier ⟨Nat.le_of_ble_eq_true rfl, Nat.le_of_ble_eq_true rfl⟩ ⟨Nat.le_of_ble_eq_true rfl, Nat.le_of_ble_eq_true rfl⟩ (bw_pick1 2 [0, 1] rfl rfl (by decide)) (Nat.le_of_ble_eq_true rfl) dX5_isRightThree_6 (fun r w1 hq => ?_)
  obtain ⟨rfl, rfl⟩ := hq
  refine bw_perm (ws1 := [(ah, .inr (5, [.ref ah_all, .ref ah_kept, .ref ah_history, .int vh_historyLong, .ref ah_slots, .ref ah_isSaved, .ref ah_words, .int vh_groups, .ref ah_left, .int vh_leftLong, .ref ah_seen, .ref ah_text, .int vh_textLong, .int vh_spot, .ref ah_signs, .ref ah_pauses, .int vh_read])), (ah_left, .inl (g.2.1, 24, .inl vh_left))]) (bw_pick1 2 [0, 1] rfl rfl (by decide)) ?_
  refine bw_st (st1 := [.int q_11]) rfl ?_
  refine bw_if_eq 44 dX5_isRightThree_9 (by decide) (fun c_12 => ?_) (fun c_12 => ?_)
  · have hf := bw_pos c_12 hf
    refine bw_iconst 0 dX5_isRightThree_44 (by decide) ?_
    cases Option.some.inj hf
    exact bw_ret rfl rfl (Nat.le_of_ble_eq_true rfl) (Nat.le_of_ble_eq_true rfl) dX5_isRightThree_45 ⟨rfl, rfl⟩
  · have hf := bw_neg c_12 hf
    refine bw_aload_n 0 dX5_isRightThree_12 rfl rfl ?_
    refine bw_gf bkX5 0 8 (by decide) fl_X5_28 rfl rfl dX5_isRightThree_13 ?_
    refine bw_iload_n 1 dX5_isRightThree_16 rfl rfl ?_
    refine bw_iconst 1 dX5_isRightThree_17 (by decide) ?_
    refine bw_iadd dX5_isRightThree_18 ?_
    obtain ⟨h_13, hf⟩ := bw_chk hf
    refine bw_iald 1 rfl h_13 dX5_isRightThree_19 ?_
    obtain ⟨q_14, hc_14, hf⟩ := bw_bind hf
    refine bw_callS [.int ((vh_left (Int32.toNatClampNeg ((p0 + 1)))))] [] [(ah, .inr (5, [.ref ah_all, .ref ah_kept, .ref ah_history, .int vh_historyLong, .ref ah_slots, .ref ah_isSaved, .ref ah_words, .int vh_groups, .ref ah_left, .int vh_leftLong, .ref ah_seen, .ref ah_text, .int vh_textLong, .int vh_spot, .ref ah_signs, .ref ah_pauses, .int vh_read])), (ah_left, .inl (g.2.1, 24, .inl vh_left))] (s_X5_isDeed l g   ((vh_left (Int32.toNatClampNeg ((p0 + 1))))) _ hc_14) rfl co_X5_isDeed ini_X5 ml_X5_81 st_X5_isDeed ar_X5_isDeed ⟨Nat.le_of_ble_eq_true rfl, Nat.le_of_ble_eq_true rfl⟩ ⟨Nat.le_of_ble_eq_true rfl, Nat.le_of_ble_eq_true rfl⟩ (bw_pick1 2 [0, 1] rfl rfl (by decide)) (Nat.le_of_ble_eq_true rfl) dX5_isRightThree_20 (fun r w1 hq => ?_)
    obtain ⟨rfl, rfl⟩ := hq
    refine bw_perm (ws1 := [(ah, .inr (5, [.ref ah_all, .ref ah_kept, .ref ah_history, .int vh_historyLong, .ref ah_slots, .ref ah_isSaved, .ref ah_words, .int vh_groups, .ref ah_left, .int vh_leftLong, .ref ah_seen, .ref ah_text, .int vh_textLong, .int vh_spot, .ref ah_signs, .ref ah_pauses, .int vh_read])), (ah_left, .inl (g.2.1, 24, .inl vh_left))]) (bw_pick1 2 [0, 1] rfl rfl (by decide)) ?_
    refine bw_st (st1 := [.int q_14]) rfl ?_
    refine bw_if_eq 44 dX5_isRightThree_23 (by decide) (fun c_15 => ?_) (fun c_15 => ?_)
    · have hf := bw_pos c_15 hf
      refine bw_iconst 0 dX5_isRightThree_44 (by decide) ?_
      cases Option.some.inj hf
      exact bw_ret rfl rfl (Nat.le_of_ble_eq_true rfl) (Nat.le_of_ble_eq_true rfl) dX5_isRightThree_45 ⟨rfl, rfl⟩
    · have hf := bw_neg c_15 hf
      refine bw_aload_n 0 dX5_isRightThree_26 rfl rfl ?_
      refine bw_gf bkX5 0 8 (by decide) fl_X5_28 rfl rfl dX5_isRightThree_27 ?_
      refine bw_iload_n 1 dX5_isRightThree_30 rfl rfl ?_
      refine bw_iconst 2 dX5_isRightThree_31 (by decide) ?_
      refine bw_iadd dX5_isRightThree_32 ?_
      obtain ⟨h_16, hf⟩ := bw_chk hf
      refine bw_iald 1 rfl h_16 dX5_isRightThree_33 ?_
      obtain ⟨q_17, hc_17, hf⟩ := bw_bind hf
      refine bw_callS [.int ((vh_left (Int32.toNatClampNeg ((p0 + 2)))))] [] [(ah, .inr (5, [.ref ah_all, .ref ah_kept, .ref ah_history, .int vh_historyLong, .ref ah_slots, .ref ah_isSaved, .ref ah_words, .int vh_groups, .ref ah_left, .int vh_leftLong, .ref ah_seen, .ref ah_text, .int vh_textLong, .int vh_spot, .ref ah_signs, .ref ah_pauses, .int vh_read])), (ah_left, .inl (g.2.1, 24, .inl vh_left))] (s_X5_isCourtier l g   ((vh_left (Int32.toNatClampNeg ((p0 + 2))))) _ hc_17) rfl co_X5_isCourtier ini_X5 ml_X5_78 st_X5_isCourtier ar_X5_isCourtier ⟨Nat.le_of_ble_eq_true rfl, Nat.le_of_ble_eq_true rfl⟩ ⟨Nat.le_of_ble_eq_true rfl, Nat.le_of_ble_eq_true rfl⟩ (bw_pick1 2 [0, 1] rfl rfl (by decide)) (Nat.le_of_ble_eq_true rfl) dX5_isRightThree_34 (fun r w1 hq => ?_)
      obtain ⟨rfl, rfl⟩ := hq
      refine bw_perm (ws1 := [(ah, .inr (5, [.ref ah_all, .ref ah_kept, .ref ah_history, .int vh_historyLong, .ref ah_slots, .ref ah_isSaved, .ref ah_words, .int vh_groups, .ref ah_left, .int vh_leftLong, .ref ah_seen, .ref ah_text, .int vh_textLong, .int vh_spot, .ref ah_signs, .ref ah_pauses, .int vh_read])), (ah_left, .inl (g.2.1, 24, .inl vh_left))]) (bw_pick1 2 [0, 1] rfl rfl (by decide)) ?_
      refine bw_st (st1 := [.int q_17]) rfl ?_
      refine bw_if_eq 44 dX5_isRightThree_37 (by decide) (fun c_18 => ?_) (fun c_18 => ?_)
      · have hf := bw_pos c_18 hf
        refine bw_iconst 0 dX5_isRightThree_44 (by decide) ?_
        cases Option.some.inj hf
        exact bw_ret rfl rfl (Nat.le_of_ble_eq_true rfl) (Nat.le_of_ble_eq_true rfl) dX5_isRightThree_45 ⟨rfl, rfl⟩
      · have hf := bw_neg c_18 hf
        refine bw_iconst 1 dX5_isRightThree_40 (by decide) ?_
        refine bw_goto 45 dX5_isRightThree_41 (by decide) ?_
        cases Option.some.inj hf
        exact bw_ret rfl rfl (Nat.le_of_ble_eq_true rfl) (Nat.le_of_ble_eq_true rfl) dX5_isRightThree_45 ⟨rfl, rfl⟩
def f_X5_reason_L42 : Nat → (Int32) → (Int32) → (Nat → Int32) → (Nat → Int32) → (Int32) → (Int32) → (Int32) → Option (Int32)
  | 0, _, _, _, _, _, _, _ => none
  | fu + 1, vh_groups, vh_leftLong, vh_words, vh_left, x1, x2, x3 => (if vh_leftLong ≤ x3 then (if x1 = 0 then (if x2 = 0 then some 0 else some 5) else some 4) else (if x1 = 0 then ((f_X5_isRightThree vh_left x3).bind fun q_32 => (if q_32 = 0 then (if x2 = 0 then (if bw_in x3 24 then (if bw_in ((x3 + 2)) 24 then (if (vh_left (Int32.toNatClampNeg x3)) = (vh_left (Int32.toNatClampNeg ((x3 + 2)))) then (f_X5_reason_L42 fu vh_groups vh_leftLong vh_words vh_left 1 1 ((x3 + 3))) else (f_X5_reason_L42 fu vh_groups vh_leftLong vh_words vh_left 1 0 ((x3 + 3)))) else none) else none) else (f_X5_reason_L42 fu vh_groups vh_leftLong vh_words vh_left 1 1 ((x3 + 3)))) else (if x2 = 0 then (if bw_in x3 24 then (if bw_in ((x3 + 2)) 24 then (if (vh_left (Int32.toNatClampNeg x3)) = (vh_left (Int32.toNatClampNeg ((x3 + 2)))) then (f_X5_reason_L42 fu vh_groups vh_leftLong vh_words vh_left 0 1 ((x3 + 3))) else (f_X5_reason_L42 fu vh_groups vh_leftLong vh_words vh_left 0 0 ((x3 + 3)))) else none) else none) else (f_X5_reason_L42 fu vh_groups vh_leftLong vh_words vh_left 0 1 ((x3 + 3)))))) else (if x2 = 0 then (if bw_in x3 24 then (if bw_in ((x3 + 2)) 24 then (if (vh_left (Int32.toNatClampNeg x3)) = (vh_left (Int32.toNatClampNeg ((x3 + 2)))) then (f_X5_reason_L42 fu vh_groups vh_leftLong vh_words vh_left 1 1 ((x3 + 3))) else (f_X5_reason_L42 fu vh_groups vh_leftLong vh_words vh_left 1 0 ((x3 + 3)))) else none) else none) else (f_X5_reason_L42 fu vh_groups vh_leftLong vh_words vh_left 1 1 ((x3 + 3))))))
set_option maxHeartbeats 4000000 in
set_option maxRecDepth 100000 in
theorem s_X5_reason_L42 (l : Launch) (g : bwG) (ah ah_all ah_kept ah_history ah_slots ah_isSaved ah_words ah_left ah_seen ah_text ah_signs ah_pauses : Nat) (fu : Nat) : ∀ (vh_historyLong : Int32) (vh_groups : Int32) (vh_leftLong : Int32) (vh_textLong : Int32) (vh_spot : Int32) (vh_read : Int32) (vh_words : Nat → Int32) (vh_left : Nat → Int32) (x1 : Int32) (x2 : Int32) (x3 : Int32) (res : Int32), f_X5_reason_L42 fu vh_groups vh_leftLong vh_words vh_left x1 x2 x3 = some res → bwR l g cX5_reason 4 RX5 "reason" (some .int) ({ frames := 3, cells := 0, slots := 0, locals := 66 } : Room) bwT (bwZ g (fun r w => r = some (.int res) ∧ w = [(ah, .inr (5, [.ref ah_all, .ref ah_kept, .ref ah_history, .int vh_historyLong, .ref ah_slots, .ref ah_isSaved, .ref ah_words, .int vh_groups, .ref ah_left, .int vh_leftLong, .ref ah_seen, .ref ah_text, .int vh_textLong, .int vh_spot, .ref ah_signs, .ref ah_pauses, .int vh_read])), (ah_words, .inl (g.2.1, 24, .inl vh_words)), (ah_left, .inl (g.2.1, 24, .inl vh_left))]) 0 0) 42 [(0, .ref ah), (1, .int x1), (2, .int x2), (3, .int x3)] [] ([(ah, .inr (5, [.ref ah_all, .ref ah_kept, .ref ah_history, .int vh_historyLong, .ref ah_slots, .ref ah_isSaved, .ref ah_words, .int vh_groups, .ref ah_left, .int vh_leftLong, .ref ah_seen, .ref ah_text, .int vh_textLong, .int vh_spot, .ref ah_signs, .ref ah_pauses, .int vh_read])), (ah_words, .inl (g.2.1, 24, .inl vh_words)), (ah_left, .inl (g.2.1, 24, .inl vh_left))]) 0 0 := by
  induction fu with
  | zero => intro vh_historyLong vh_groups vh_leftLong vh_textLong vh_spot vh_read vh_words vh_left x1 x2 x3 res hf; exact absurd hf (by intro h; cases h)
  | succ fu ih =>
    intro vh_historyLong vh_groups vh_leftLong vh_textLong vh_spot vh_read vh_words vh_left x1 x2 x3 res hf
    rw [f_X5_reason_L42] at hf
    refine bw_iload_n 3 dX5_reason_42 rfl rfl ?_
    refine bw_aload_n 0 dX5_reason_43 rfl rfl ?_
    refine bw_gf bkX5 0 9 (by decide) fl_X5_71 rfl rfl dX5_reason_44 ?_
    refine bw_icmp_ge 101 dX5_reason_47 (by decide) (fun c_24 => ?_) (fun c_24 => ?_)
    · have hf := bw_pos c_24 hf
      refine bw_iload_n 1 dX5_reason_101 rfl rfl ?_
      refine bw_if_eq 109 dX5_reason_102 (by decide) (fun c_25 => ?_) (fun c_25 => ?_)
      · have hf := bw_pos c_25 hf
        refine bw_iload_n 2 dX5_reason_109 rfl rfl ?_
        refine bw_if_eq 117 dX5_reason_110 (by decide) (fun c_26 => ?_) (fun c_26 => ?_)
        · have hf := bw_pos c_26 hf
          refine bw_iconst 0 dX5_reason_117 (by decide) ?_
          cases Option.some.inj hf
          exact bw_ret rfl rfl (Nat.le_of_ble_eq_true rfl) (Nat.le_of_ble_eq_true rfl) dX5_reason_118 ⟨rfl, rfl⟩
        · have hf := bw_neg c_26 hf
          refine bw_iconst 5 dX5_reason_113 (by decide) ?_
          refine bw_goto 118 dX5_reason_114 (by decide) ?_
          cases Option.some.inj hf
          exact bw_ret rfl rfl (Nat.le_of_ble_eq_true rfl) (Nat.le_of_ble_eq_true rfl) dX5_reason_118 ⟨rfl, rfl⟩
      · have hf := bw_neg c_25 hf
        refine bw_iconst 4 dX5_reason_105 (by decide) ?_
        refine bw_goto 118 dX5_reason_106 (by decide) ?_
        cases Option.some.inj hf
        exact bw_ret rfl rfl (Nat.le_of_ble_eq_true rfl) (Nat.le_of_ble_eq_true rfl) dX5_reason_118 ⟨rfl, rfl⟩
    · have hf := bw_neg c_24 hf
      refine bw_iload_n 1 dX5_reason_50 rfl rfl ?_
      refine bw_if_ne 62 dX5_reason_51 (by decide) (fun c_27 => ?_) (fun c_27 => ?_)
      · have hf := bw_neg c_27 hf
        refine bw_iconst 1 dX5_reason_62 (by decide) ?_
        refine bw_goto 67 dX5_reason_63 (by decide) ?_
        refine bw_istore_n [(1, .int 1), (0, .ref ah), (2, .int x2), (3, .int x3)] dX5_reason_67 rfl (by decide) rfl ?_
        refine bw_iload_n 2 dX5_reason_68 rfl rfl ?_
        refine bw_if_ne 89 dX5_reason_69 (by decide) (fun c_28 => ?_) (fun c_28 => ?_)
        · have hf := bw_neg c_28 hf
          refine bw_iconst 1 dX5_reason_89 (by decide) ?_
          refine bw_goto 94 dX5_reason_90 (by decide) ?_
          refine bw_istore_n [(2, .int 1), (1, .int 1), (0, .ref ah), (3, .int x3)] dX5_reason_94 rfl (by decide) rfl ?_
          refine bw_iinc 3 (x3 + 3) [(3, .int ((x3 + 3))), (2, .int 1), (1, .int 1), (0, .ref ah)] dX5_reason_95 rfl rfl (by decide) rfl ?_
          refine bw_goto 42 dX5_reason_98 (by decide) ?_
          refine bw_lv [3, 2, 1, 0] rfl ?_
          exact ih vh_historyLong vh_groups vh_leftLong vh_textLong vh_spot vh_read vh_words vh_left 1 1 ((x3 + 3)) _ hf
        · have hf := bw_pos c_28 hf
          refine bw_aload_n 1 dX5_reason_72 rfl rfl ?_
          refine bw_gf bkX5 0 8 (by decide) fl_X5_28 rfl rfl dX5_reason_73 ?_
          refine bw_iload_n 3 dX5_reason_76 rfl rfl ?_
          obtain ⟨h_29, hf⟩ := bw_chk hf
          refine bw_iald 2 rfl h_29 dX5_reason_77 ?_
          refine bw_aload_n 1 dX5_reason_78 rfl rfl ?_
          refine bw_gf bkX5 0 8 (by decide) fl_X5_28 rfl rfl dX5_reason_79 ?_
          refine bw_iload_n 3 dX5_reason_82 rfl rfl ?_
          refine bw_iconst 2 dX5_reason_83 (by decide) ?_
          refine bw_iadd dX5_reason_84 ?_
          obtain ⟨h_30, hf⟩ := bw_chk hf
          refine bw_iald 2 rfl h_30 dX5_reason_85 ?_
          refine bw_icmp_ne 93 dX5_reason_86 (by decide) (fun c_31 => ?_) (fun c_31 => ?_)
          · have hf := bw_neg c_31 hf
            refine bw_iconst 0 dX5_reason_93 (by decide) ?_
            refine bw_istore_n [(2, .int 0), (1, .int 1), (0, .ref ah), (3, .int x3)] dX5_reason_94 rfl (by decide) rfl ?_
            refine bw_iinc 3 (x3 + 3) [(3, .int ((x3 + 3))), (2, .int 0), (1, .int 1), (0, .ref ah)] dX5_reason_95 rfl rfl (by decide) rfl ?_
            refine bw_goto 42 dX5_reason_98 (by decide) ?_
            refine bw_lv [3, 2, 1, 0] rfl ?_
            exact ih vh_historyLong vh_groups vh_leftLong vh_textLong vh_spot vh_read vh_words vh_left 1 0 ((x3 + 3)) _ hf
          · have hf := bw_pos c_31 hf
            refine bw_iconst 1 dX5_reason_89 (by decide) ?_
            refine bw_goto 94 dX5_reason_90 (by decide) ?_
            refine bw_istore_n [(2, .int 1), (1, .int 1), (0, .ref ah), (3, .int x3)] dX5_reason_94 rfl (by decide) rfl ?_
            refine bw_iinc 3 (x3 + 3) [(3, .int ((x3 + 3))), (2, .int 1), (1, .int 1), (0, .ref ah)] dX5_reason_95 rfl rfl (by decide) rfl ?_
            refine bw_goto 42 dX5_reason_98 (by decide) ?_
            refine bw_lv [3, 2, 1, 0] rfl ?_
            exact ih vh_historyLong vh_groups vh_leftLong vh_textLong vh_spot vh_read vh_words vh_left 1 1 ((x3 + 3)) _ hf
      · have hf := bw_pos c_27 hf
        refine bw_aload_n 0 dX5_reason_54 rfl rfl ?_
        refine bw_iload_n 3 dX5_reason_55 rfl rfl ?_
        obtain ⟨q_32, hc_32, hf⟩ := bw_bind hf
        refine bw_callV [.int x3] [] [(ah_words, .inl (g.2.1, 24, .inl vh_words))] 0 5 (s_X5_isRightThree l g ah ah_all ah_kept ah_history ah_slots ah_isSaved ah_words ah_left ah_seen ah_text ah_signs ah_pauses vh_historyLong vh_groups vh_leftLong vh_textLong vh_spot vh_read vh_left x3 _ hc_32) rfl co_X5_isRightThree ini_X5 ml_X5_88 im_X5_isRightThree se_X5_isRightThree ar_X5_isRightThree ⟨Nat.le_of_ble_eq_true rfl, Nat.le_of_ble_eq_true rfl⟩ ⟨Nat.le_of_ble_eq_true rfl, Nat.le_of_ble_eq_true rfl⟩ rfl rfl (bw_pick1 3 [0, 2, 1] rfl rfl (by decide)) (Nat.le_of_ble_eq_true rfl) dX5_reason_56 (fun r w1 hq => ?_)
        obtain ⟨rfl, rfl⟩ := hq
        refine bw_perm (ws1 := [(ah, .inr (5, [.ref ah_all, .ref ah_kept, .ref ah_history, .int vh_historyLong, .ref ah_slots, .ref ah_isSaved, .ref ah_words, .int vh_groups, .ref ah_left, .int vh_leftLong, .ref ah_seen, .ref ah_text, .int vh_textLong, .int vh_spot, .ref ah_signs, .ref ah_pauses, .int vh_read])), (ah_words, .inl (g.2.1, 24, .inl vh_words)), (ah_left, .inl (g.2.1, 24, .inl vh_left))]) (bw_pick1 3 [1, 0, 2] rfl rfl (by decide)) ?_
        refine bw_st (st1 := [.int q_32]) rfl ?_
        refine bw_if_ne 66 dX5_reason_59 (by decide) (fun c_33 => ?_) (fun c_33 => ?_)
        · have hf := bw_neg c_33 hf
          refine bw_iconst 0 dX5_reason_66 (by decide) ?_
          refine bw_istore_n [(1, .int 0), (0, .ref ah), (2, .int x2), (3, .int x3)] dX5_reason_67 rfl (by decide) rfl ?_
          refine bw_iload_n 2 dX5_reason_68 rfl rfl ?_
          refine bw_if_ne 89 dX5_reason_69 (by decide) (fun c_34 => ?_) (fun c_34 => ?_)
          · have hf := bw_neg c_34 hf
            refine bw_iconst 1 dX5_reason_89 (by decide) ?_
            refine bw_goto 94 dX5_reason_90 (by decide) ?_
            refine bw_istore_n [(2, .int 1), (1, .int 0), (0, .ref ah), (3, .int x3)] dX5_reason_94 rfl (by decide) rfl ?_
            refine bw_iinc 3 (x3 + 3) [(3, .int ((x3 + 3))), (2, .int 1), (1, .int 0), (0, .ref ah)] dX5_reason_95 rfl rfl (by decide) rfl ?_
            refine bw_goto 42 dX5_reason_98 (by decide) ?_
            refine bw_lv [3, 2, 1, 0] rfl ?_
            exact ih vh_historyLong vh_groups vh_leftLong vh_textLong vh_spot vh_read vh_words vh_left 0 1 ((x3 + 3)) _ hf
          · have hf := bw_pos c_34 hf
            refine bw_aload_n 1 dX5_reason_72 rfl rfl ?_
            refine bw_gf bkX5 0 8 (by decide) fl_X5_28 rfl rfl dX5_reason_73 ?_
            refine bw_iload_n 3 dX5_reason_76 rfl rfl ?_
            obtain ⟨h_35, hf⟩ := bw_chk hf
            refine bw_iald 2 rfl h_35 dX5_reason_77 ?_
            refine bw_aload_n 1 dX5_reason_78 rfl rfl ?_
            refine bw_gf bkX5 0 8 (by decide) fl_X5_28 rfl rfl dX5_reason_79 ?_
            refine bw_iload_n 3 dX5_reason_82 rfl rfl ?_
            refine bw_iconst 2 dX5_reason_83 (by decide) ?_
            refine bw_iadd dX5_reason_84 ?_
            obtain ⟨h_36, hf⟩ := bw_chk hf
            refine bw_iald 2 rfl h_36 dX5_reason_85 ?_
            refine bw_icmp_ne 93 dX5_reason_86 (by decide) (fun c_37 => ?_) (fun c_37 => ?_)
            · have hf := bw_neg c_37 hf
              refine bw_iconst 0 dX5_reason_93 (by decide) ?_
              refine bw_istore_n [(2, .int 0), (1, .int 0), (0, .ref ah), (3, .int x3)] dX5_reason_94 rfl (by decide) rfl ?_
              refine bw_iinc 3 (x3 + 3) [(3, .int ((x3 + 3))), (2, .int 0), (1, .int 0), (0, .ref ah)] dX5_reason_95 rfl rfl (by decide) rfl ?_
              refine bw_goto 42 dX5_reason_98 (by decide) ?_
              refine bw_lv [3, 2, 1, 0] rfl ?_
              exact ih vh_historyLong vh_groups vh_leftLong vh_textLong vh_spot vh_read vh_words vh_left 0 0 ((x3 + 3)) _ hf
            · have hf := bw_pos c_37 hf
              refine bw_iconst 1 dX5_reason_89 (by decide) ?_
              refine bw_goto 94 dX5_reason_90 (by decide) ?_
              refine bw_istore_n [(2, .int 1), (1, .int 0), (0, .ref ah), (3, .int x3)] dX5_reason_94 rfl (by decide) rfl ?_
              refine bw_iinc 3 (x3 + 3) [(3, .int ((x3 + 3))), (2, .int 1), (1, .int 0), (0, .ref ah)] dX5_reason_95 rfl rfl (by decide) rfl ?_
              refine bw_goto 42 dX5_reason_98 (by decide) ?_
              refine bw_lv [3, 2, 1, 0] rfl ?_
              exact ih vh_historyLong vh_groups vh_leftLong vh_textLong vh_spot vh_read vh_words vh_left 0 1 ((x3 + 3)) _ hf
        · have hf := bw_pos c_33 hf
          refine bw_iconst 1 dX5_reason_62 (by decide) ?_
          refine bw_goto 67 dX5_reason_63 (by decide) ?_
          refine bw_istore_n [(1, .int 1), (0, .ref ah), (2, .int x2), (3, .int x3)] dX5_reason_67 rfl (by decide) rfl ?_
          refine bw_iload_n 2 dX5_reason_68 rfl rfl ?_
          refine bw_if_ne 89 dX5_reason_69 (by decide) (fun c_38 => ?_) (fun c_38 => ?_)
          · have hf := bw_neg c_38 hf
            refine bw_iconst 1 dX5_reason_89 (by decide) ?_
            refine bw_goto 94 dX5_reason_90 (by decide) ?_
            refine bw_istore_n [(2, .int 1), (1, .int 1), (0, .ref ah), (3, .int x3)] dX5_reason_94 rfl (by decide) rfl ?_
            refine bw_iinc 3 (x3 + 3) [(3, .int ((x3 + 3))), (2, .int 1), (1, .int 1), (0, .ref ah)] dX5_reason_95 rfl rfl (by decide) rfl ?_
            refine bw_goto 42 dX5_reason_98 (by decide) ?_
            refine bw_lv [3, 2, 1, 0] rfl ?_
            exact ih vh_historyLong vh_groups vh_leftLong vh_textLong vh_spot vh_read vh_words vh_left 1 1 ((x3 + 3)) _ hf
          · have hf := bw_pos c_38 hf
            refine bw_aload_n 1 dX5_reason_72 rfl rfl ?_
            refine bw_gf bkX5 0 8 (by decide) fl_X5_28 rfl rfl dX5_reason_73 ?_
            refine bw_iload_n 3 dX5_reason_76 rfl rfl ?_
            obtain ⟨h_39, hf⟩ := bw_chk hf
            refine bw_iald 2 rfl h_39 dX5_reason_77 ?_
            refine bw_aload_n 1 dX5_reason_78 rfl rfl ?_
            refine bw_gf bkX5 0 8 (by decide) fl_X5_28 rfl rfl dX5_reason_79 ?_
            refine bw_iload_n 3 dX5_reason_82 rfl rfl ?_
            refine bw_iconst 2 dX5_reason_83 (by decide) ?_
            refine bw_iadd dX5_reason_84 ?_
            obtain ⟨h_40, hf⟩ := bw_chk hf
            refine bw_iald 2 rfl h_40 dX5_reason_85 ?_
            refine bw_icmp_ne 93 dX5_reason_86 (by decide) (fun c_41 => ?_) (fun c_41 => ?_)
            · have hf := bw_neg c_41 hf
              refine bw_iconst 0 dX5_reason_93 (by decide) ?_
              refine bw_istore_n [(2, .int 0), (1, .int 1), (0, .ref ah), (3, .int x3)] dX5_reason_94 rfl (by decide) rfl ?_
              refine bw_iinc 3 (x3 + 3) [(3, .int ((x3 + 3))), (2, .int 0), (1, .int 1), (0, .ref ah)] dX5_reason_95 rfl rfl (by decide) rfl ?_
              refine bw_goto 42 dX5_reason_98 (by decide) ?_
              refine bw_lv [3, 2, 1, 0] rfl ?_
              exact ih vh_historyLong vh_groups vh_leftLong vh_textLong vh_spot vh_read vh_words vh_left 1 0 ((x3 + 3)) _ hf
            · have hf := bw_pos c_41 hf
              refine bw_iconst 1 dX5_reason_89 (by decide) ?_
              refine bw_goto 94 dX5_reason_90 (by decide) ?_
              refine bw_istore_n [(2, .int 1), (1, .int 1), (0, .ref ah), (3, .int x3)] dX5_reason_94 rfl (by decide) rfl ?_
              refine bw_iinc 3 (x3 + 3) [(3, .int ((x3 + 3))), (2, .int 1), (1, .int 1), (0, .ref ah)] dX5_reason_95 rfl rfl (by decide) rfl ?_
              refine bw_goto 42 dX5_reason_98 (by decide) ?_
              refine bw_lv [3, 2, 1, 0] rfl ?_
              exact ih vh_historyLong vh_groups vh_leftLong vh_textLong vh_spot vh_read vh_words vh_left 1 1 ((x3 + 3)) _ hf
theorem ar_X5_reason : yX5_reason.cls ≠ "java/lang/invoke/MethodHandle" ∧ yX5_reason.cls ≠ "java/lang/invoke/VarHandle" ∧ (parseMethodDescriptor yX5_reason.desc).map (fun d => d.parameters.length) = some 0 := ⟨by decide, by decide, by decide +kernel⟩
def f_X5_reason (vh_groups : Int32) (vh_leftLong : Int32) (vh_words : Nat → Int32) (vh_left : Nat → Int32)  : Option (Int32) := (if vh_groups = 0 then some 1 else ((f_X5_isTooLong vh_groups vh_words).bind fun q_43 => (if q_43 = 0 then (if vh_leftLong = 0 then some 3 else (if (vh_leftLong - vh_leftLong / 3 * 3) = 0 then (f_X5_reason_L42 bw_F vh_groups vh_leftLong vh_words vh_left 0 0 0) else some 3)) else some 2)))
set_option maxHeartbeats 4000000 in
set_option maxRecDepth 100000 in
theorem s_X5_reason (l : Launch) (g : bwG) (ah ah_all ah_kept ah_history ah_slots ah_isSaved ah_words ah_left ah_seen ah_text ah_signs ah_pauses : Nat) (vh_historyLong : Int32) (vh_groups : Int32) (vh_leftLong : Int32) (vh_textLong : Int32) (vh_spot : Int32) (vh_read : Int32) (vh_words : Nat → Int32) (vh_left : Nat → Int32)  (res : Int32) (hf : f_X5_reason vh_groups vh_leftLong vh_words vh_left  = some res) : bwS l g yX5_reason cX5_reason 4 (some .int) ({ frames := 3, cells := 0, slots := 0, locals := 66 } : Room) [.ref ah] ([(ah, .inr (5, [.ref ah_all, .ref ah_kept, .ref ah_history, .int vh_historyLong, .ref ah_slots, .ref ah_isSaved, .ref ah_words, .int vh_groups, .ref ah_left, .int vh_leftLong, .ref ah_seen, .ref ah_text, .int vh_textLong, .int vh_spot, .ref ah_signs, .ref ah_pauses, .int vh_read])), (ah_words, .inl (g.2.1, 24, .inl vh_words)), (ah_left, .inl (g.2.1, 24, .inl vh_left))]) (fun r w => r = some (.int res) ∧ w = [(ah, .inr (5, [.ref ah_all, .ref ah_kept, .ref ah_history, .int vh_historyLong, .ref ah_slots, .ref ah_isSaved, .ref ah_words, .int vh_groups, .ref ah_left, .int vh_leftLong, .ref ah_seen, .ref ah_text, .int vh_textLong, .int vh_spot, .ref ah_signs, .ref ah_pauses, .int vh_read])), (ah_words, .inl (g.2.1, 24, .inl vh_words)), (ah_left, .inl (g.2.1, 24, .inl vh_left))]) := by
  refine bwS_of (by decide) (Nat.le_of_ble_eq_true rfl) ?_
  unfold f_X5_reason at hf
  show bwR l g cX5_reason 4 RX5 "reason" (some .int) ({ frames := 3, cells := 0, slots := 0, locals := 66 } : Room) bwT (bwZ g (fun r w => r = some (.int res) ∧ w = [(ah, .inr (5, [.ref ah_all, .ref ah_kept, .ref ah_history, .int vh_historyLong, .ref ah_slots, .ref ah_isSaved, .ref ah_words, .int vh_groups, .ref ah_left, .int vh_leftLong, .ref ah_seen, .ref ah_text, .int vh_textLong, .int vh_spot, .ref ah_signs, .ref ah_pauses, .int vh_read])), (ah_words, .inl (g.2.1, 24, .inl vh_words)), (ah_left, .inl (g.2.1, 24, .inl vh_left))]) 0 0) 0 [(0, .ref ah)] [] ([(ah, .inr (5, [.ref ah_all, .ref ah_kept, .ref ah_history, .int vh_historyLong, .ref ah_slots, .ref ah_isSaved, .ref ah_words, .int vh_groups, .ref ah_left, .int vh_leftLong, .ref ah_seen, .ref ah_text, .int vh_textLong, .int vh_spot, .ref ah_signs, .ref ah_pauses, .int vh_read])), (ah_words, .inl (g.2.1, 24, .inl vh_words)), (ah_left, .inl (g.2.1, 24, .inl vh_left))]) 0 0
  refine bw_aload_n 0 dX5_reason_0 rfl rfl ?_
  refine bw_gf bkX5 0 7 (by decide) fl_X5_59 rfl rfl dX5_reason_1 ?_
  refine bw_if_ne 9 dX5_reason_4 (by decide) (fun c_42 => ?_) (fun c_42 => ?_)
  · have hf := bw_neg c_42 hf
    refine bw_aload_n 0 dX5_reason_9 rfl rfl ?_
    obtain ⟨q_43, hc_43, hf⟩ := bw_bind hf
    refine bw_callV [] [] [(ah_left, .inl (g.2.1, 24, .inl vh_left))] 0 5 (s_X5_isTooLong l g ah ah_all ah_kept ah_history ah_slots ah_isSaved ah_words ah_left ah_seen ah_text ah_signs ah_pauses vh_historyLong vh_groups vh_leftLong vh_textLong vh_spot vh_read vh_words  _ hc_43) rfl co_X5_isTooLong ini_X5 ml_X5_84 im_X5_isTooLong se_X5_isTooLong ar_X5_isTooLong ⟨Nat.le_of_ble_eq_true rfl, Nat.le_of_ble_eq_true rfl⟩ ⟨Nat.le_of_ble_eq_true rfl, Nat.le_of_ble_eq_true rfl⟩ rfl rfl (bw_pick1 3 [0, 1, 2] rfl rfl (by decide)) (Nat.le_of_ble_eq_true rfl) dX5_reason_10 (fun r w1 hq => ?_)
    obtain ⟨rfl, rfl⟩ := hq
    refine bw_perm (ws1 := [(ah, .inr (5, [.ref ah_all, .ref ah_kept, .ref ah_history, .int vh_historyLong, .ref ah_slots, .ref ah_isSaved, .ref ah_words, .int vh_groups, .ref ah_left, .int vh_leftLong, .ref ah_seen, .ref ah_text, .int vh_textLong, .int vh_spot, .ref ah_signs, .ref ah_pauses, .int vh_read])), (ah_words, .inl (g.2.1, 24, .inl vh_words)), (ah_left, .inl (g.2.1, 24, .inl vh_left))]) (bw_pick1 3 [1, 2, 0] rfl rfl (by decide)) ?_
    refine bw_st (st1 := [.int q_43]) rfl ?_
    refine bw_if_eq 18 dX5_reason_13 (by decide) (fun c_44 => ?_) (fun c_44 => ?_)
    · have hf := bw_pos c_44 hf
      refine bw_aload_n 0 dX5_reason_18 rfl rfl ?_
      refine bw_gf bkX5 0 9 (by decide) fl_X5_71 rfl rfl dX5_reason_19 ?_
      refine bw_if_eq 34 dX5_reason_22 (by decide) (fun c_45 => ?_) (fun c_45 => ?_)
      · have hf := bw_pos c_45 hf
        refine bw_iconst 3 dX5_reason_34 (by decide) ?_
        cases Option.some.inj hf
        exact bw_ret rfl rfl (Nat.le_of_ble_eq_true rfl) (Nat.le_of_ble_eq_true rfl) dX5_reason_35 ⟨rfl, rfl⟩
      · have hf := bw_neg c_45 hf
        refine bw_aload_n 0 dX5_reason_25 rfl rfl ?_
        refine bw_gf bkX5 0 9 (by decide) fl_X5_71 rfl rfl dX5_reason_26 ?_
        refine bw_iconst 3 dX5_reason_29 (by decide) ?_
        refine bw_irem dX5_reason_30 (by decide) ?_
        refine bw_if_eq 36 dX5_reason_31 (by decide) (fun c_46 => ?_) (fun c_46 => ?_)
        · have hf := bw_pos c_46 hf
          refine bw_iconst 0 dX5_reason_36 (by decide) ?_
          refine bw_istore_n [(1, .int 0), (0, .ref ah)] dX5_reason_37 rfl (by decide) rfl ?_
          refine bw_iconst 0 dX5_reason_38 (by decide) ?_
          refine bw_istore_n [(2, .int 0), (1, .int 0), (0, .ref ah)] dX5_reason_39 rfl (by decide) rfl ?_
          refine bw_iconst 0 dX5_reason_40 (by decide) ?_
          refine bw_istore_n [(3, .int 0), (2, .int 0), (1, .int 0), (0, .ref ah)] dX5_reason_41 rfl (by decide) rfl ?_
          refine bw_lv [3, 2, 1, 0] rfl ?_
          exact s_X5_reason_L42 l g ah ah_all ah_kept ah_history ah_slots ah_isSaved ah_words ah_left ah_seen ah_text ah_signs ah_pauses bw_F vh_historyLong vh_groups vh_leftLong vh_textLong vh_spot vh_read vh_words vh_left 0 0 0 _ hf
        · have hf := bw_neg c_46 hf
          refine bw_iconst 3 dX5_reason_34 (by decide) ?_
          cases Option.some.inj hf
          exact bw_ret rfl rfl (Nat.le_of_ble_eq_true rfl) (Nat.le_of_ble_eq_true rfl) dX5_reason_35 ⟨rfl, rfl⟩
    · have hf := bw_neg c_44 hf
      refine bw_iconst 2 dX5_reason_16 (by decide) ?_
      cases Option.some.inj hf
      exact bw_ret rfl rfl (Nat.le_of_ble_eq_true rfl) (Nat.le_of_ble_eq_true rfl) dX5_reason_17 ⟨rfl, rfl⟩
  · have hf := bw_pos c_42 hf
    refine bw_iconst 1 dX5_reason_7 (by decide) ?_
    cases Option.some.inj hf
    exact bw_ret rfl rfl (Nat.le_of_ble_eq_true rfl) (Nat.le_of_ble_eq_true rfl) dX5_reason_8 ⟨rfl, rfl⟩
theorem ar_X5_sentences : yX5_sentences.cls ≠ "java/lang/invoke/MethodHandle" ∧ yX5_sentences.cls ≠ "java/lang/invoke/VarHandle" ∧ (parseMethodDescriptor yX5_sentences.desc).map (fun d => d.parameters.length) = some 1 := ⟨by decide, by decide, by decide +kernel⟩
def f_X5_sentences (vh_groups : Int32) (vh_leftLong : Int32) (vh_all : Nat → Int32) (vh_words : Nat → Int32) (vh_left : Nat → Int32) (p0 : Int32) : Option (Int32 × (Int32) × (Int32) × (Nat → Int32) × (Nat → Int32)) := ((f_X5_parts vh_groups vh_leftLong vh_all vh_words vh_left p0).bind fun q_4 => ((f_X5_reason q_4.1 q_4.2.1 q_4.2.2.1 q_4.2.2.2).bind fun q_5 => (if q_5 = 0 then some ((q_4.2.1 / 3), q_4.1, q_4.2.1, q_4.2.2.1, q_4.2.2.2) else some (0, q_4.1, q_4.2.1, q_4.2.2.1, q_4.2.2.2))))
set_option maxHeartbeats 4000000 in
set_option maxRecDepth 100000 in
theorem s_X5_sentences (l : Launch) (g : bwG) (ah ah_all ah_kept ah_history ah_slots ah_isSaved ah_words ah_left ah_seen ah_text ah_signs ah_pauses : Nat) (vh_historyLong : Int32) (vh_groups : Int32) (vh_leftLong : Int32) (vh_textLong : Int32) (vh_spot : Int32) (vh_read : Int32) (vh_all : Nat → Int32) (vh_words : Nat → Int32) (vh_left : Nat → Int32) (p0 : Int32) (res : Int32 × (Int32) × (Int32) × (Nat → Int32) × (Nat → Int32)) (hf : f_X5_sentences vh_groups vh_leftLong vh_all vh_words vh_left p0 = some res) : bwS l g yX5_sentences cX5_sentences 2 (some .int) ({ frames := 4, cells := 0, slots := 0, locals := 89 } : Room) [.ref ah, .int p0] ([(ah, .inr (5, [.ref ah_all, .ref ah_kept, .ref ah_history, .int vh_historyLong, .ref ah_slots, .ref ah_isSaved, .ref ah_words, .int vh_groups, .ref ah_left, .int vh_leftLong, .ref ah_seen, .ref ah_text, .int vh_textLong, .int vh_spot, .ref ah_signs, .ref ah_pauses, .int vh_read])), (ah_all, .inl (g.2.1, 120, .inl vh_all)), (ah_words, .inl (g.2.1, 24, .inl vh_words)), (ah_left, .inl (g.2.1, 24, .inl vh_left))]) (fun r w => r = some (.int res.1) ∧ w = [(ah, .inr (5, [.ref ah_all, .ref ah_kept, .ref ah_history, .int vh_historyLong, .ref ah_slots, .ref ah_isSaved, .ref ah_words, .int res.2.1, .ref ah_left, .int res.2.2.1, .ref ah_seen, .ref ah_text, .int vh_textLong, .int vh_spot, .ref ah_signs, .ref ah_pauses, .int vh_read])), (ah_all, .inl (g.2.1, 120, .inl vh_all)), (ah_words, .inl (g.2.1, 24, .inl res.2.2.2.1)), (ah_left, .inl (g.2.1, 24, .inl res.2.2.2.2))]) := by
  refine bwS_of (by decide) (Nat.le_of_ble_eq_true rfl) ?_
  unfold f_X5_sentences at hf
  show bwR l g cX5_sentences 2 RX5 "sentences" (some .int) ({ frames := 4, cells := 0, slots := 0, locals := 89 } : Room) bwT (bwZ g (fun r w => r = some (.int res.1) ∧ w = [(ah, .inr (5, [.ref ah_all, .ref ah_kept, .ref ah_history, .int vh_historyLong, .ref ah_slots, .ref ah_isSaved, .ref ah_words, .int res.2.1, .ref ah_left, .int res.2.2.1, .ref ah_seen, .ref ah_text, .int vh_textLong, .int vh_spot, .ref ah_signs, .ref ah_pauses, .int vh_read])), (ah_all, .inl (g.2.1, 120, .inl vh_all)), (ah_words, .inl (g.2.1, 24, .inl res.2.2.2.1)), (ah_left, .inl (g.2.1, 24, .inl res.2.2.2.2))]) 0 0) 0 [(0, .ref ah), (1, .int p0)] [] ([(ah, .inr (5, [.ref ah_all, .ref ah_kept, .ref ah_history, .int vh_historyLong, .ref ah_slots, .ref ah_isSaved, .ref ah_words, .int vh_groups, .ref ah_left, .int vh_leftLong, .ref ah_seen, .ref ah_text, .int vh_textLong, .int vh_spot, .ref ah_signs, .ref ah_pauses, .int vh_read])), (ah_all, .inl (g.2.1, 120, .inl vh_all)), (ah_words, .inl (g.2.1, 24, .inl vh_words)), (ah_left, .inl (g.2.1, 24, .inl vh_left))]) 0 0
  refine bw_aload_n 0 dX5_sentences_0 rfl rfl ?_
  refine bw_iload_n 1 dX5_sentences_1 rfl rfl ?_
  obtain ⟨q_4, hc_4, hf⟩ := bw_bind hf
  refine bw_callV [.int p0] [] [] 0 5 (s_X5_parts l g ah ah_all ah_kept ah_history ah_slots ah_isSaved ah_words ah_left ah_seen ah_text ah_signs ah_pauses vh_historyLong vh_groups vh_leftLong vh_textLong vh_spot vh_read vh_all vh_words vh_left p0 _ hc_4) rfl co_X5_parts ini_X5 ml_X5_91 im_X5_parts se_X5_parts ar_X5_parts ⟨Nat.le_of_ble_eq_true rfl, Nat.le_of_ble_eq_true rfl⟩ ⟨Nat.le_of_ble_eq_true rfl, Nat.le_of_ble_eq_true rfl⟩ rfl rfl (bw_pick1 4 [0, 1, 2, 3] rfl rfl (by decide)) (Nat.le_of_ble_eq_true rfl) dX5_sentences_2 (fun r w1 hq => ?_)
  obtain ⟨rfl, rfl⟩ := hq
  refine bw_perm (ws1 := [(ah, .inr (5, [.ref ah_all, .ref ah_kept, .ref ah_history, .int vh_historyLong, .ref ah_slots, .ref ah_isSaved, .ref ah_words, .int q_4.1, .ref ah_left, .int q_4.2.1, .ref ah_seen, .ref ah_text, .int vh_textLong, .int vh_spot, .ref ah_signs, .ref ah_pauses, .int vh_read])), (ah_all, .inl (g.2.1, 120, .inl vh_all)), (ah_words, .inl (g.2.1, 24, .inl q_4.2.2.1)), (ah_left, .inl (g.2.1, 24, .inl q_4.2.2.2))]) (bw_pick1 4 [0, 1, 2, 3] rfl rfl (by decide)) ?_
  refine bw_st (st1 := []) rfl ?_
  refine bw_aload_n 0 dX5_sentences_5 rfl rfl ?_
  obtain ⟨q_5, hc_5, hf⟩ := bw_bind hf
  refine bw_callV [] [] [(ah_all, .inl (g.2.1, 120, .inl vh_all))] 0 5 (s_X5_reason l g ah ah_all ah_kept ah_history ah_slots ah_isSaved ah_words ah_left ah_seen ah_text ah_signs ah_pauses vh_historyLong q_4.1 q_4.2.1 vh_textLong vh_spot vh_read q_4.2.2.1 q_4.2.2.2  _ hc_5) rfl co_X5_reason ini_X5 ml_X5_95 im_X5_reason se_X5_reason ar_X5_reason ⟨Nat.le_of_ble_eq_true rfl, Nat.le_of_ble_eq_true rfl⟩ ⟨Nat.le_of_ble_eq_true rfl, Nat.le_of_ble_eq_true rfl⟩ rfl rfl (bw_pick1 4 [0, 2, 3, 1] rfl rfl (by decide)) (Nat.le_of_ble_eq_true rfl) dX5_sentences_6 (fun r w1 hq => ?_)
  obtain ⟨rfl, rfl⟩ := hq
  refine bw_perm (ws1 := [(ah, .inr (5, [.ref ah_all, .ref ah_kept, .ref ah_history, .int vh_historyLong, .ref ah_slots, .ref ah_isSaved, .ref ah_words, .int q_4.1, .ref ah_left, .int q_4.2.1, .ref ah_seen, .ref ah_text, .int vh_textLong, .int vh_spot, .ref ah_signs, .ref ah_pauses, .int vh_read])), (ah_all, .inl (g.2.1, 120, .inl vh_all)), (ah_words, .inl (g.2.1, 24, .inl q_4.2.2.1)), (ah_left, .inl (g.2.1, 24, .inl q_4.2.2.2))]) (bw_pick1 4 [1, 0, 2, 3] rfl rfl (by decide)) ?_
  refine bw_st (st1 := [.int q_5]) rfl ?_
  refine bw_if_ne 21 dX5_sentences_9 (by decide) (fun c_6 => ?_) (fun c_6 => ?_)
  · have hf := bw_neg c_6 hf
    refine bw_iconst 0 dX5_sentences_21 (by decide) ?_
    cases Option.some.inj hf
    exact bw_ret rfl rfl (Nat.le_of_ble_eq_true rfl) (Nat.le_of_ble_eq_true rfl) dX5_sentences_22 ⟨rfl, rfl⟩
  · have hf := bw_pos c_6 hf
    refine bw_aload_n 0 dX5_sentences_12 rfl rfl ?_
    refine bw_gf bkX5 0 9 (by decide) fl_X5_71 rfl rfl dX5_sentences_13 ?_
    refine bw_iconst 3 dX5_sentences_16 (by decide) ?_
    refine bw_idiv dX5_sentences_17 (by decide) ?_
    refine bw_goto 22 dX5_sentences_18 (by decide) ?_
    cases Option.some.inj hf
    exact bw_ret rfl rfl (Nat.le_of_ble_eq_true rfl) (Nat.le_of_ble_eq_true rfl) dX5_sentences_22 ⟨rfl, rfl⟩
theorem ar_X5_at : yX5_at.cls ≠ "java/lang/invoke/MethodHandle" ∧ yX5_at.cls ≠ "java/lang/invoke/VarHandle" ∧ (parseMethodDescriptor yX5_at.desc).map (fun d => d.parameters.length) = some 2 := ⟨by decide, by decide, by decide +kernel⟩
def f_X5_at  (p0 : Int32) (p1 : Int32) : Option (Int32) := some ((12 + (6 * p0)) + p1)
set_option maxHeartbeats 4000000 in
set_option maxRecDepth 100000 in
theorem s_X5_at (l : Launch) (g : bwG)   (p0 : Int32) (p1 : Int32) (res : Int32) (hf : f_X5_at  p0 p1 = some res) : bwS l g yX5_at cX5_at 2 (some .int) ({ frames := 0, cells := 0, slots := 0, locals := 0 } : Room) [.int p0, .int p1] ([]) (fun r w => r = some (.int res) ∧ w = []) := by
  refine bwS_of (by decide) (Nat.le_of_ble_eq_true rfl) ?_
  unfold f_X5_at at hf
  show bwR l g cX5_at 2 RX5 "at" (some .int) ({ frames := 0, cells := 0, slots := 0, locals := 0 } : Room) bwT (bwZ g (fun r w => r = some (.int res) ∧ w = []) 0 0) 0 [(0, .int p0), (1, .int p1)] [] ([]) 0 0
  refine bw_bipush 12 dX5_at_0 (by decide) ?_
  refine bw_bipush 6 dX5_at_2 (by decide) ?_
  refine bw_iload_n 0 dX5_at_4 rfl rfl ?_
  refine bw_imul dX5_at_5 ?_
  refine bw_iadd dX5_at_6 ?_
  refine bw_iload_n 1 dX5_at_7 rfl rfl ?_
  refine bw_iadd dX5_at_8 ?_
  cases Option.some.inj hf
  exact bw_ret rfl rfl (Nat.le_of_ble_eq_true rfl) (Nat.le_of_ble_eq_true rfl) dX5_at_9 ⟨rfl, rfl⟩
theorem ar_X5_takes : yX5_takes.cls ≠ "java/lang/invoke/MethodHandle" ∧ yX5_takes.cls ≠ "java/lang/invoke/VarHandle" ∧ (parseMethodDescriptor yX5_takes.desc).map (fun d => d.parameters.length) = some 4 := ⟨by decide, by decide, by decide +kernel⟩
def f_X5_takes (vh_all : Nat → Int32) (p0 : Int32) (p1 : Int32) (p2 : Int32) (p3 : Int32) : Option ((Nat → Int32)) := (if (p2 - p2 / 2 * 2) = 0 then (if bw_in 1 120 then ((f_X5_at p0 p1).bind fun q_52 => (if bw_in q_52 120 then (if p0 = p3 then ((f_X5_at p0 p1).bind fun q_61 => (if ((vh_all (Int32.toNatClampNeg q_52)) + (2 * (vh_all (Int32.toNatClampNeg 1)))) ≤ 99 then (if (-99) ≤ ((vh_all (Int32.toNatClampNeg q_52)) + (2 * (vh_all (Int32.toNatClampNeg 1)))) then (if bw_in q_61 120 then some (upd vh_all (Int32.toNatClampNeg q_61) (((vh_all (Int32.toNatClampNeg q_52)) + (2 * (vh_all (Int32.toNatClampNeg 1)))))) else none) else (if bw_in q_61 120 then some (upd vh_all (Int32.toNatClampNeg q_61) ((-99))) else none)) else (if bw_in q_61 120 then some (upd vh_all (Int32.toNatClampNeg q_61) 99) else none))) else ((f_X5_at p0 p1).bind fun q_55 => (if ((vh_all (Int32.toNatClampNeg q_52)) + (vh_all (Int32.toNatClampNeg 1))) ≤ 99 then (if (-99) ≤ ((vh_all (Int32.toNatClampNeg q_52)) + (vh_all (Int32.toNatClampNeg 1))) then (if bw_in q_55 120 then some (upd vh_all (Int32.toNatClampNeg q_55) (((vh_all (Int32.toNatClampNeg q_52)) + (vh_all (Int32.toNatClampNeg 1))))) else none) else (if bw_in q_55 120 then some (upd vh_all (Int32.toNatClampNeg q_55) ((-99))) else none)) else (if bw_in q_55 120 then some (upd vh_all (Int32.toNatClampNeg q_55) 99) else none)))) else none)) else none) else (if bw_in 2 120 then ((f_X5_at p0 p1).bind fun q_36 => (if bw_in q_36 120 then (if p0 = p3 then ((f_X5_at p0 p1).bind fun q_45 => (if ((vh_all (Int32.toNatClampNeg q_36)) + (2 * (-(vh_all (Int32.toNatClampNeg 2))))) ≤ 99 then (if (-99) ≤ ((vh_all (Int32.toNatClampNeg q_36)) + (2 * (-(vh_all (Int32.toNatClampNeg 2))))) then (if bw_in q_45 120 then some (upd vh_all (Int32.toNatClampNeg q_45) (((vh_all (Int32.toNatClampNeg q_36)) + (2 * (-(vh_all (Int32.toNatClampNeg 2))))))) else none) else (if bw_in q_45 120 then some (upd vh_all (Int32.toNatClampNeg q_45) ((-99))) else none)) else (if bw_in q_45 120 then some (upd vh_all (Int32.toNatClampNeg q_45) 99) else none))) else ((f_X5_at p0 p1).bind fun q_39 => (if ((vh_all (Int32.toNatClampNeg q_36)) + (-(vh_all (Int32.toNatClampNeg 2)))) ≤ 99 then (if (-99) ≤ ((vh_all (Int32.toNatClampNeg q_36)) + (-(vh_all (Int32.toNatClampNeg 2)))) then (if bw_in q_39 120 then some (upd vh_all (Int32.toNatClampNeg q_39) (((vh_all (Int32.toNatClampNeg q_36)) + (-(vh_all (Int32.toNatClampNeg 2)))))) else none) else (if bw_in q_39 120 then some (upd vh_all (Int32.toNatClampNeg q_39) ((-99))) else none)) else (if bw_in q_39 120 then some (upd vh_all (Int32.toNatClampNeg q_39) 99) else none)))) else none)) else none))
set_option maxHeartbeats 4000000 in
set_option maxRecDepth 100000 in
theorem s_X5_takes (l : Launch) (g : bwG) (ah ah_all ah_kept ah_history ah_slots ah_isSaved ah_words ah_left ah_seen ah_text ah_signs ah_pauses : Nat) (vh_historyLong : Int32) (vh_groups : Int32) (vh_leftLong : Int32) (vh_textLong : Int32) (vh_spot : Int32) (vh_read : Int32) (vh_all : Nat → Int32) (p0 : Int32) (p1 : Int32) (p2 : Int32) (p3 : Int32) (res : (Nat → Int32)) (hf : f_X5_takes vh_all p0 p1 p2 p3 = some res) : bwS l g yX5_takes cX5_takes 7 none ({ frames := 1, cells := 0, slots := 0, locals := 21 } : Room) [.ref ah, .int p0, .int p1, .int p2, .int p3] ([(ah, .inr (5, [.ref ah_all, .ref ah_kept, .ref ah_history, .int vh_historyLong, .ref ah_slots, .ref ah_isSaved, .ref ah_words, .int vh_groups, .ref ah_left, .int vh_leftLong, .ref ah_seen, .ref ah_text, .int vh_textLong, .int vh_spot, .ref ah_signs, .ref ah_pauses, .int vh_read])), (ah_all, .inl (g.2.1, 120, .inl vh_all))]) (fun r w => r = none ∧ w = [(ah, .inr (5, [.ref ah_all, .ref ah_kept, .ref ah_history, .int vh_historyLong, .ref ah_slots, .ref ah_isSaved, .ref ah_words, .int vh_groups, .ref ah_left, .int vh_leftLong, .ref ah_seen, .ref ah_text, .int vh_textLong, .int vh_spot, .ref ah_signs, .ref ah_pauses, .int vh_read])), (ah_all, .inl (g.2.1, 120, .inl res))]) := by
  refine bwS_of (by decide) (Nat.le_of_ble_eq_true rfl) ?_
  unfold f_X5_takes at hf
  show bwR l g cX5_takes 7 RX5 "takes" none ({ frames := 1, cells := 0, slots := 0, locals := 21 } : Room) bwT (bwZ g (fun r w => r = none ∧ w = [(ah, .inr (5, [.ref ah_all, .ref ah_kept, .ref ah_history, .int vh_historyLong, .ref ah_slots, .ref ah_isSaved, .ref ah_words, .int vh_groups, .ref ah_left, .int vh_leftLong, .ref ah_seen, .ref ah_text, .int vh_textLong, .int vh_spot, .ref ah_signs, .ref ah_pauses, .int vh_read])), (ah_all, .inl (g.2.1, 120, .inl res))]) 0 0) 0 [(0, .ref ah), (1, .int p0), (2, .int p1), (3, .int p2), (4, .int p3)] [] ([(ah, .inr (5, [.ref ah_all, .ref ah_kept, .ref ah_history, .int vh_historyLong, .ref ah_slots, .ref ah_isSaved, .ref ah_words, .int vh_groups, .ref ah_left, .int vh_leftLong, .ref ah_seen, .ref ah_text, .int vh_textLong, .int vh_spot, .ref ah_signs, .ref ah_pauses, .int vh_read])), (ah_all, .inl (g.2.1, 120, .inl vh_all))]) 0 0
  refine bw_iload_n 3 dX5_takes_0 rfl rfl ?_
  refine bw_iconst 2 dX5_takes_1 (by decide) ?_
  refine bw_irem dX5_takes_2 (by decide) ?_
  refine bw_if_ne 15 dX5_takes_3 (by decide) (fun c_34 => ?_) (fun c_34 => ?_)
  · have hf := bw_neg c_34 hf
    refine bw_aload_n 0 dX5_takes_15 rfl rfl ?_
    refine bw_gf bkX5 0 0 (by decide) fl_X5_7 rfl rfl dX5_takes_16 ?_
    refine bw_iconst 2 dX5_takes_19 (by decide) ?_
    obtain ⟨h_35, hf⟩ := bw_chk hf
    refine bw_iald 1 rfl h_35 dX5_takes_20 ?_
    refine bw_ineg dX5_takes_21 ?_
    refine bw_istore [(5, .int ((-(vh_all (Int32.toNatClampNeg 2))))), (0, .ref ah), (1, .int p0), (2, .int p1), (3, .int p2), (4, .int p3)] dX5_takes_22 (by decide) rfl ?_
    refine bw_aload_n 1 dX5_takes_24 rfl rfl ?_
    refine bw_gf bkX5 0 0 (by decide) fl_X5_7 rfl rfl dX5_takes_25 ?_
    refine bw_iload_n 2 dX5_takes_28 rfl rfl ?_
    refine bw_iload_n 3 dX5_takes_29 rfl rfl ?_
    obtain ⟨q_36, hc_36, hf⟩ := bw_bind hf
    refine bw_callS [.int p0, .int p1] [.ref ah_all] [(ah, .inr (5, [.ref ah_all, .ref ah_kept, .ref ah_history, .int vh_historyLong, .ref ah_slots, .ref ah_isSaved, .ref ah_words, .int vh_groups, .ref ah_left, .int vh_leftLong, .ref ah_seen, .ref ah_text, .int vh_textLong, .int vh_spot, .ref ah_signs, .ref ah_pauses, .int vh_read])), (ah_all, .inl (g.2.1, 120, .inl vh_all))] (s_X5_at l g   p0 p1 _ hc_36) rfl co_X5_at ini_X5 ml_X5_99 st_X5_at ar_X5_at ⟨Nat.le_of_ble_eq_true rfl, Nat.le_of_ble_eq_true rfl⟩ ⟨Nat.le_of_ble_eq_true rfl, Nat.le_of_ble_eq_true rfl⟩ (bw_pick1 2 [0, 1] rfl rfl (by decide)) (Nat.le_of_ble_eq_true rfl) dX5_takes_30 (fun r w1 hq => ?_)
    obtain ⟨rfl, rfl⟩ := hq
    refine bw_perm (ws1 := [(ah, .inr (5, [.ref ah_all, .ref ah_kept, .ref ah_history, .int vh_historyLong, .ref ah_slots, .ref ah_isSaved, .ref ah_words, .int vh_groups, .ref ah_left, .int vh_leftLong, .ref ah_seen, .ref ah_text, .int vh_textLong, .int vh_spot, .ref ah_signs, .ref ah_pauses, .int vh_read])), (ah_all, .inl (g.2.1, 120, .inl vh_all))]) (bw_pick1 2 [0, 1] rfl rfl (by decide)) ?_
    refine bw_st (st1 := [.int q_36, .ref ah_all]) rfl ?_
    obtain ⟨h_37, hf⟩ := bw_chk hf
    refine bw_iald 1 rfl h_37 dX5_takes_33 ?_
    refine bw_iload_n 2 dX5_takes_34 rfl rfl ?_
    refine bw_iload 5 dX5_takes_35 rfl ?_
    refine bw_icmp_ne 47 dX5_takes_37 (by decide) (fun c_38 => ?_) (fun c_38 => ?_)
    · have hf := bw_neg c_38 hf
      refine bw_iload 0 dX5_takes_47 rfl ?_
      refine bw_iadd dX5_takes_49 ?_
      refine bw_istore [(6, .int (((vh_all (Int32.toNatClampNeg q_36)) + (-(vh_all (Int32.toNatClampNeg 2)))))), (5, .int ((-(vh_all (Int32.toNatClampNeg 2))))), (0, .ref ah), (1, .int p0), (2, .int p1), (3, .int p2), (4, .int p3)] dX5_takes_50 (by decide) rfl ?_
      refine bw_aload_n 2 dX5_takes_52 rfl rfl ?_
      refine bw_gf bkX5 0 0 (by decide) fl_X5_7 rfl rfl dX5_takes_53 ?_
      refine bw_iload_n 3 dX5_takes_56 rfl rfl ?_
      refine bw_iload_n 4 dX5_takes_57 rfl rfl ?_
      obtain ⟨q_39, hc_39, hf⟩ := bw_bind hf
      refine bw_callS [.int p0, .int p1] [.ref ah_all] [(ah, .inr (5, [.ref ah_all, .ref ah_kept, .ref ah_history, .int vh_historyLong, .ref ah_slots, .ref ah_isSaved, .ref ah_words, .int vh_groups, .ref ah_left, .int vh_leftLong, .ref ah_seen, .ref ah_text, .int vh_textLong, .int vh_spot, .ref ah_signs, .ref ah_pauses, .int vh_read])), (ah_all, .inl (g.2.1, 120, .inl vh_all))] (s_X5_at l g   p0 p1 _ hc_39) rfl co_X5_at ini_X5 ml_X5_99 st_X5_at ar_X5_at ⟨Nat.le_of_ble_eq_true rfl, Nat.le_of_ble_eq_true rfl⟩ ⟨Nat.le_of_ble_eq_true rfl, Nat.le_of_ble_eq_true rfl⟩ (bw_pick1 2 [0, 1] rfl rfl (by decide)) (Nat.le_of_ble_eq_true rfl) dX5_takes_58 (fun r w1 hq => ?_)
      obtain ⟨rfl, rfl⟩ := hq
      refine bw_perm (ws1 := [(ah, .inr (5, [.ref ah_all, .ref ah_kept, .ref ah_history, .int vh_historyLong, .ref ah_slots, .ref ah_isSaved, .ref ah_words, .int vh_groups, .ref ah_left, .int vh_leftLong, .ref ah_seen, .ref ah_text, .int vh_textLong, .int vh_spot, .ref ah_signs, .ref ah_pauses, .int vh_read])), (ah_all, .inl (g.2.1, 120, .inl vh_all))]) (bw_pick1 2 [0, 1] rfl rfl (by decide)) ?_
      refine bw_st (st1 := [.int q_39, .ref ah_all]) rfl ?_
      refine bw_iload 0 dX5_takes_61 rfl ?_
      refine bw_bipush 99 dX5_takes_63 (by decide) ?_
      refine bw_icmp_le 73 dX5_takes_65 (by decide) (fun c_40 => ?_) (fun c_40 => ?_)
      · have hf := bw_pos c_40 hf
        refine bw_iload 0 dX5_takes_73 rfl ?_
        refine bw_bipush (-99) dX5_takes_75 (by decide) ?_
        refine bw_icmp_ge 85 dX5_takes_77 (by decide) (fun c_41 => ?_) (fun c_41 => ?_)
        · have hf := bw_pos c_41 hf
          refine bw_iload 0 dX5_takes_85 rfl ?_
          obtain ⟨h_42, hf⟩ := bw_chk hf
          refine bw_iast 1 ([(ah, .inr (5, [.ref ah_all, .ref ah_kept, .ref ah_history, .int vh_historyLong, .ref ah_slots, .ref ah_isSaved, .ref ah_words, .int vh_groups, .ref ah_left, .int vh_leftLong, .ref ah_seen, .ref ah_text, .int vh_textLong, .int vh_spot, .ref ah_signs, .ref ah_pauses, .int vh_read])), (ah_all, .inl (g.2.1, 120, .inl ((upd vh_all (Int32.toNatClampNeg q_39) (((vh_all (Int32.toNatClampNeg q_36)) + (-(vh_all (Int32.toNatClampNeg 2)))))))))]) rfl h_42 rfl dX5_takes_87 ?_
          cases Option.some.inj hf
          exact bw_vret rfl (Nat.le_of_ble_eq_true rfl) (Nat.le_of_ble_eq_true rfl) dX5_takes_88 ⟨rfl, rfl⟩
        · have hf := bw_neg c_41 hf
          refine bw_bipush (-99) dX5_takes_80 (by decide) ?_
          refine bw_goto 87 dX5_takes_82 (by decide) ?_
          obtain ⟨h_43, hf⟩ := bw_chk hf
          refine bw_iast 1 ([(ah, .inr (5, [.ref ah_all, .ref ah_kept, .ref ah_history, .int vh_historyLong, .ref ah_slots, .ref ah_isSaved, .ref ah_words, .int vh_groups, .ref ah_left, .int vh_leftLong, .ref ah_seen, .ref ah_text, .int vh_textLong, .int vh_spot, .ref ah_signs, .ref ah_pauses, .int vh_read])), (ah_all, .inl (g.2.1, 120, .inl ((upd vh_all (Int32.toNatClampNeg q_39) ((-99))))))]) rfl h_43 rfl dX5_takes_87 ?_
          cases Option.some.inj hf
          exact bw_vret rfl (Nat.le_of_ble_eq_true rfl) (Nat.le_of_ble_eq_true rfl) dX5_takes_88 ⟨rfl, rfl⟩
      · have hf := bw_neg c_40 hf
        refine bw_bipush 99 dX5_takes_68 (by decide) ?_
        refine bw_goto 87 dX5_takes_70 (by decide) ?_
        obtain ⟨h_44, hf⟩ := bw_chk hf
        refine bw_iast 1 ([(ah, .inr (5, [.ref ah_all, .ref ah_kept, .ref ah_history, .int vh_historyLong, .ref ah_slots, .ref ah_isSaved, .ref ah_words, .int vh_groups, .ref ah_left, .int vh_leftLong, .ref ah_seen, .ref ah_text, .int vh_textLong, .int vh_spot, .ref ah_signs, .ref ah_pauses, .int vh_read])), (ah_all, .inl (g.2.1, 120, .inl ((upd vh_all (Int32.toNatClampNeg q_39) 99))))]) rfl h_44 rfl dX5_takes_87 ?_
        cases Option.some.inj hf
        exact bw_vret rfl (Nat.le_of_ble_eq_true rfl) (Nat.le_of_ble_eq_true rfl) dX5_takes_88 ⟨rfl, rfl⟩
    · have hf := bw_pos c_38 hf
      refine bw_iconst 2 dX5_takes_40 (by decide) ?_
      refine bw_iload 0 dX5_takes_41 rfl ?_
      refine bw_imul dX5_takes_43 ?_
      refine bw_goto 49 dX5_takes_44 (by decide) ?_
      refine bw_iadd dX5_takes_49 ?_
      refine bw_istore [(6, .int (((vh_all (Int32.toNatClampNeg q_36)) + (2 * (-(vh_all (Int32.toNatClampNeg 2))))))), (5, .int ((-(vh_all (Int32.toNatClampNeg 2))))), (0, .ref ah), (1, .int p0), (2, .int p1), (3, .int p2), (4, .int p3)] dX5_takes_50 (by decide) rfl ?_
      refine bw_aload_n 2 dX5_takes_52 rfl rfl ?_
      refine bw_gf bkX5 0 0 (by decide) fl_X5_7 rfl rfl dX5_takes_53 ?_
      refine bw_iload_n 3 dX5_takes_56 rfl rfl ?_
      refine bw_iload_n 4 dX5_takes_57 rfl rfl ?_
      obtain ⟨q_45, hc_45, hf⟩ := bw_bind hf
      refine bw_callS [.int p0, .int p1] [.ref ah_all] [(ah, .inr (5, [.ref ah_all, .ref ah_kept, .ref ah_history, .int vh_historyLong, .ref ah_slots, .ref ah_isSaved, .ref ah_words, .int vh_groups, .ref ah_left, .int vh_leftLong, .ref ah_seen, .ref ah_text, .int vh_textLong, .int vh_spot, .ref ah_signs, .ref ah_pauses, .int vh_read])), (ah_all, .inl (g.2.1, 120, .inl vh_all))] (s_X5_at l g   p0 p1 _ hc_45) rfl co_X5_at ini_X5 ml_X5_99 st_X5_at ar_X5_at ⟨Nat.le_of_ble_eq_true rfl, Nat.le_of_ble_eq_true rfl⟩ ⟨Nat.le_of_ble_eq_true rfl, Nat.le_of_ble_eq_true rfl⟩ (bw_pick1 2 [0, 1] rfl rfl (by decide)) (Nat.le_of_ble_eq_true rfl) dX5_takes_58 (fun r w1 hq => ?_)
      obtain ⟨rfl, rfl⟩ := hq
      refine bw_perm (ws1 := [(ah, .inr (5, [.ref ah_all, .ref ah_kept, .ref ah_history, .int vh_historyLong, .ref ah_slots, .ref ah_isSaved, .ref ah_words, .int vh_groups, .ref ah_left, .int vh_leftLong, .ref ah_seen, .ref ah_text, .int vh_textLong, .int vh_spot, .ref ah_signs, .ref ah_pauses, .int vh_read])), (ah_all, .inl (g.2.1, 120, .inl vh_all))]) (bw_pick1 2 [0, 1] rfl rfl (by decide)) ?_
      refine bw_st (st1 := [.int q_45, .ref ah_all]) rfl ?_
      refine bw_iload 0 dX5_takes_61 rfl ?_
      refine bw_bipush 99 dX5_takes_63 (by decide) ?_
      refine bw_icmp_le 73 dX5_takes_65 (by decide) (fun c_46 => ?_) (fun c_46 => ?_)
      · have hf := bw_pos c_46 hf
        refine bw_iload 0 dX5_takes_73 rfl ?_
        refine bw_bipush (-99) dX5_takes_75 (by decide) ?_
        refine bw_icmp_ge 85 dX5_takes_77 (by decide) (fun c_47 => ?_) (fun c_47 => ?_)
        · have hf := bw_pos c_47 hf
          refine bw_iload 0 dX5_takes_85 rfl ?_
          obtain ⟨h_48, hf⟩ := bw_chk hf
          refine bw_iast 1 ([(ah, .inr (5, [.ref ah_all, .ref ah_kept, .ref ah_history, .int vh_historyLong, .ref ah_slots, .ref ah_isSaved, .ref ah_words, .int vh_groups, .ref ah_left, .int vh_leftLong, .ref ah_seen, .ref ah_text, .int vh_textLong, .int vh_spot, .ref ah_signs, .ref ah_pauses, .int vh_read])), (ah_all, .inl (g.2.1, 120, .inl ((upd vh_all (Int32.toNatClampNeg q_45) (((vh_all (Int32.toNatClampNeg q_36)) + (2 * (-(vh_all (Int32.toNatClampNeg 2))))))))))]) rfl h_48 rfl dX5_takes_87 ?_
          cases Option.some.inj hf
          exact bw_vret rfl (Nat.le_of_ble_eq_true rfl) (Nat.le_of_ble_eq_true rfl) dX5_takes_88 ⟨rfl, rfl⟩
        · have hf := bw_neg c_47 hf
          refine bw_bipush (-99) dX5_takes_80 (by decide) ?_
          refine bw_goto 87 dX5_takes_82 (by decide) ?_
          obtain ⟨h_49, hf⟩ := bw_chk hf
          refine bw_iast 1 ([(ah, .inr (5, [.ref ah_all, .ref ah_kept, .ref ah_history, .int vh_historyLong, .ref ah_slots, .ref ah_isSaved, .ref ah_words, .int vh_groups, .ref ah_left, .int vh_leftLong, .ref ah_seen, .ref ah_text, .int vh_textLong, .int vh_spot, .ref ah_signs, .ref ah_pauses, .int vh_read])), (ah_all, .inl (g.2.1, 120, .inl ((upd vh_all (Int32.toNatClampNeg q_45) ((-99))))))]) rfl h_49 rfl dX5_takes_87 ?_
          cases Option.some.inj hf
          exact bw_vret rfl (Nat.le_of_ble_eq_true rfl) (Nat.le_of_ble_eq_true rfl) dX5_takes_88 ⟨rfl, rfl⟩
      · have hf := bw_neg c_46 hf
        refine bw_bipush 99 dX5_takes_68 (by decide) ?_
        refine bw_goto 87 dX5_takes_70 (by decide) ?_
        obtain ⟨h_50, hf⟩ := bw_chk hf
        refine bw_iast 1 ([(ah, .inr (5, [.ref ah_all, .ref ah_kept, .ref ah_history, .int vh_historyLong, .ref ah_slots, .ref ah_isSaved, .ref ah_words, .int vh_groups, .ref ah_left, .int vh_leftLong, .ref ah_seen, .ref ah_text, .int vh_textLong, .int vh_spot, .ref ah_signs, .ref ah_pauses, .int vh_read])), (ah_all, .inl (g.2.1, 120, .inl ((upd vh_all (Int32.toNatClampNeg q_45) 99))))]) rfl h_50 rfl dX5_takes_87 ?_
        cases Option.some.inj hf
        exact bw_vret rfl (Nat.le_of_ble_eq_true rfl) (Nat.le_of_ble_eq_true rfl) dX5_takes_88 ⟨rfl, rfl⟩
  · have hf := bw_pos c_34 hf
    refine bw_aload_n 0 dX5_takes_6 rfl rfl ?_
    refine bw_gf bkX5 0 0 (by decide) fl_X5_7 rfl rfl dX5_takes_7 ?_
    refine bw_iconst 1 dX5_takes_10 (by decide) ?_
    obtain ⟨h_51, hf⟩ := bw_chk hf
    refine bw_iald 1 rfl h_51 dX5_takes_11 ?_
    refine bw_goto 22 dX5_takes_12 (by decide) ?_
    refine bw_istore [(5, .int ((vh_all (Int32.toNatClampNeg 1)))), (0, .ref ah), (1, .int p0), (2, .int p1), (3, .int p2), (4, .int p3)] dX5_takes_22 (by decide) rfl ?_
    refine bw_aload_n 1 dX5_takes_24 rfl rfl ?_
    refine bw_gf bkX5 0 0 (by decide) fl_X5_7 rfl rfl dX5_takes_25 ?_
    refine bw_iload_n 2 dX5_takes_28 rfl rfl ?_
    refine bw_iload_n 3 dX5_takes_29 rfl rfl ?_
    obtain ⟨q_52, hc_52, hf⟩ := bw_bind hf
    refine bw_callS [.int p0, .int p1] [.ref ah_all] [(ah, .inr (5, [.ref ah_all, .ref ah_kept, .ref ah_history, .int vh_historyLong, .ref ah_slots, .ref ah_isSaved, .ref ah_words, .int vh_groups, .ref ah_left, .int vh_leftLong, .ref ah_seen, .ref ah_text, .int vh_textLong, .int vh_spot, .ref ah_signs, .ref ah_pauses, .int vh_read])), (ah_all, .inl (g.2.1, 120, .inl vh_all))] (s_X5_at l g   p0 p1 _ hc_52) rfl co_X5_at ini_X5 ml_X5_99 st_X5_at ar_X5_at ⟨Nat.le_of_ble_eq_true rfl, Nat.le_of_ble_eq_true rfl⟩ ⟨Nat.le_of_ble_eq_true rfl, Nat.le_of_ble_eq_true rfl⟩ (bw_pick1 2 [0, 1] rfl rfl (by decide)) (Nat.le_of_ble_eq_true rfl) dX5_takes_30 (fun r w1 hq => ?_)
    obtain ⟨rfl, rfl⟩ := hq
    refine bw_perm (ws1 := [(ah, .inr (5, [.ref ah_all, .ref ah_kept, .ref ah_history, .int vh_historyLong, .ref ah_slots, .ref ah_isSaved, .ref ah_words, .int vh_groups, .ref ah_left, .int vh_leftLong, .ref ah_seen, .ref ah_text, .int vh_textLong, .int vh_spot, .ref ah_signs, .ref ah_pauses, .int vh_read])), (ah_all, .inl (g.2.1, 120, .inl vh_all))]) (bw_pick1 2 [0, 1] rfl rfl (by decide)) ?_
    refine bw_st (st1 := [.int q_52, .ref ah_all]) rfl ?_
    obtain ⟨h_53, hf⟩ := bw_chk hf
    refine bw_iald 1 rfl h_53 dX5_takes_33 ?_
    refine bw_iload_n 2 dX5_takes_34 rfl rfl ?_
    refine bw_iload 5 dX5_takes_35 rfl ?_
    refine bw_icmp_ne 47 dX5_takes_37 (by decide) (fun c_54 => ?_) (fun c_54 => ?_)
    · have hf := bw_neg c_54 hf
      refine bw_iload 0 dX5_takes_47 rfl ?_
      refine bw_iadd dX5_takes_49 ?_
      refine bw_istore [(6, .int (((vh_all (Int32.toNatClampNeg q_52)) + (vh_all (Int32.toNatClampNeg 1))))), (5, .int ((vh_all (Int32.toNatClampNeg 1)))), (0, .ref ah), (1, .int p0), (2, .int p1), (3, .int p2), (4, .int p3)] dX5_takes_50 (by decide) rfl ?_
      refine bw_aload_n 2 dX5_takes_52 rfl rfl ?_
      refine bw_gf bkX5 0 0 (by decide) fl_X5_7 rfl rfl dX5_takes_53 ?_
      refine bw_iload_n 3 dX5_takes_56 rfl rfl ?_
      refine bw_iload_n 4 dX5_takes_57 rfl rfl ?_
      obtain ⟨q_55, hc_55, hf⟩ := bw_bind hf
      refine bw_callS [.int p0, .int p1] [.ref ah_all] [(ah, .inr (5, [.ref ah_all, .ref ah_kept, .ref ah_history, .int vh_historyLong, .ref ah_slots, .ref ah_isSaved, .ref ah_words, .int vh_groups, .ref ah_left, .int vh_leftLong, .ref ah_seen, .ref ah_text, .int vh_textLong, .int vh_spot, .ref ah_signs, .ref ah_pauses, .int vh_read])), (ah_all, .inl (g.2.1, 120, .inl vh_all))] (s_X5_at l g   p0 p1 _ hc_55) rfl co_X5_at ini_X5 ml_X5_99 st_X5_at ar_X5_at ⟨Nat.le_of_ble_eq_true rfl, Nat.le_of_ble_eq_true rfl⟩ ⟨Nat.le_of_ble_eq_true rfl, Nat.le_of_ble_eq_true rfl⟩ (bw_pick1 2 [0, 1] rfl rfl (by decide)) (Nat.le_of_ble_eq_true rfl) dX5_takes_58 (fun r w1 hq => ?_)
      obtain ⟨rfl, rfl⟩ := hq
      refine bw_perm (ws1 := [(ah, .inr (5, [.ref ah_all, .ref ah_kept, .ref ah_history, .int vh_historyLong, .ref ah_slots, .ref ah_isSaved, .ref ah_words, .int vh_groups, .ref ah_left, .int vh_leftLong, .ref ah_seen, .ref ah_text, .int vh_textLong, .int vh_spot, .ref ah_signs, .ref ah_pauses, .int vh_read])), (ah_all, .inl (g.2.1, 120, .inl vh_all))]) (bw_pick1 2 [0, 1] rfl rfl (by decide)) ?_
      refine bw_st (st1 := [.int q_55, .ref ah_all]) rfl ?_
      refine bw_iload 0 dX5_takes_61 rfl ?_
      refine bw_bipush 99 dX5_takes_63 (by decide) ?_
      refine bw_icmp_le 73 dX5_takes_65 (by decide) (fun c_56 => ?_) (fun c_56 => ?_)
      · have hf := bw_pos c_56 hf
        refine bw_iload 0 dX5_takes_73 rfl ?_
        refine bw_bipush (-99) dX5_takes_75 (by decide) ?_
        refine bw_icmp_ge 85 dX5_takes_77 (by decide) (fun c_57 => ?_) (fun c_57 => ?_)
        · have hf := bw_pos c_57 hf
          refine bw_iload 0 dX5_takes_85 rfl ?_
          obtain ⟨h_58, hf⟩ := bw_chk hf
          refine bw_iast 1 ([(ah, .inr (5, [.ref ah_all, .ref ah_kept, .ref ah_history, .int vh_historyLong, .ref ah_slots, .ref ah_isSaved, .ref ah_words, .int vh_groups, .ref ah_left, .int vh_leftLong, .ref ah_seen, .ref ah_text, .int vh_textLong, .int vh_spot, .ref ah_signs, .ref ah_pauses, .int vh_read])), (ah_all, .inl (g.2.1, 120, .inl ((upd vh_all (Int32.toNatClampNeg q_55) (((vh_all (Int32.toNatClampNeg q_52)) + (vh_all (Int32.toNatClampNeg 1))))))))]) rfl h_58 rfl dX5_takes_87 ?_
          cases Option.some.inj hf
          exact bw_vret rfl (Nat.le_of_ble_eq_true rfl) (Nat.le_of_ble_eq_true rfl) dX5_takes_88 ⟨rfl, rfl⟩
        · have hf := bw_neg c_57 hf
          refine bw_bipush (-99) dX5_takes_80 (by decide) ?_
          refine bw_goto 87 dX5_takes_82 (by decide) ?_
          obtain ⟨h_59, hf⟩ := bw_chk hf
          refine bw_iast 1 ([(ah, .inr (5, [.ref ah_all, .ref ah_kept, .ref ah_history, .int vh_historyLong, .ref ah_slots, .ref ah_isSaved, .ref ah_words, .int vh_groups, .ref ah_left, .int vh_leftLong, .ref ah_seen, .ref ah_text, .int vh_textLong, .int vh_spot, .ref ah_signs, .ref ah_pauses, .int vh_read])), (ah_all, .inl (g.2.1, 120, .inl ((upd vh_all (Int32.toNatClampNeg q_55) ((-99))))))]) rfl h_59 rfl dX5_takes_87 ?_
          cases Option.some.inj hf
          exact bw_vret rfl (Nat.le_of_ble_eq_true rfl) (Nat.le_of_ble_eq_true rfl) dX5_takes_88 ⟨rfl, rfl⟩
      · have hf := bw_neg c_56 hf
        refine bw_bipush 99 dX5_takes_68 (by decide) ?_
        refine bw_goto 87 dX5_takes_70 (by decide) ?_
        obtain ⟨h_60, hf⟩ := bw_chk hf
        refine bw_iast 1 ([(ah, .inr (5, [.ref ah_all, .ref ah_kept, .ref ah_history, .int vh_historyLong, .ref ah_slots, .ref ah_isSaved, .ref ah_words, .int vh_groups, .ref ah_left, .int vh_leftLong, .ref ah_seen, .ref ah_text, .int vh_textLong, .int vh_spot, .ref ah_signs, .ref ah_pauses, .int vh_read])), (ah_all, .inl (g.2.1, 120, .inl ((upd vh_all (Int32.toNatClampNeg q_55) 99))))]) rfl h_60 rfl dX5_takes_87 ?_
        cases Option.some.inj hf
        exact bw_vret rfl (Nat.le_of_ble_eq_true rfl) (Nat.le_of_ble_eq_true rfl) dX5_takes_88 ⟨rfl, rfl⟩
    · have hf := bw_pos c_54 hf
      refine bw_iconst 2 dX5_takes_40 (by decide) ?_
      refine bw_iload 0 dX5_takes_41 rfl ?_
      refine bw_imul dX5_takes_43 ?_
      refine bw_goto 49 dX5_takes_44 (by decide) ?_
      refine bw_iadd dX5_takes_49 ?_
      refine bw_istore [(6, .int (((vh_all (Int32.toNatClampNeg q_52)) + (2 * (vh_all (Int32.toNatClampNeg 1)))))), (5, .int ((vh_all (Int32.toNatClampNeg 1)))), (0, .ref ah), (1, .int p0), (2, .int p1), (3, .int p2), (4, .int p3)] dX5_takes_50 (by decide) rfl ?_
      refine bw_aload_n 2 dX5_takes_52 rfl rfl ?_
      refine bw_gf bkX5 0 0 (by decide) fl_X5_7 rfl rfl dX5_takes_53 ?_
      refine bw_iload_n 3 dX5_takes_56 rfl rfl ?_
      refine bw_iload_n 4 dX5_takes_57 rfl rfl ?_
      obtain ⟨q_61, hc_61, hf⟩ := bw_bind hf
      refine bw_callS [.int p0, .int p1] [.ref ah_all] [(ah, .inr (5, [.ref ah_all, .ref ah_kept, .ref ah_history, .int vh_historyLong, .ref ah_slots, .ref ah_isSaved, .ref ah_words, .int vh_groups, .ref ah_left, .int vh_leftLong, .ref ah_seen, .ref ah_text, .int vh_textLong, .int vh_spot, .ref ah_signs, .ref ah_pauses, .int vh_read])), (ah_all, .inl (g.2.1, 120, .inl vh_all))] (s_X5_at l g   p0 p1 _ hc_61) rfl co_X5_at ini_X5 ml_X5_99 st_X5_at ar_X5_at ⟨Nat.le_of_ble_eq_true rfl, Nat.le_of_ble_eq_true rfl⟩ ⟨Nat.le_of_ble_eq_true rfl, Nat.le_of_ble_eq_true rfl⟩ (bw_pick1 2 [0, 1] rfl rfl (by decide)) (Nat.le_of_ble_eq_true rfl) dX5_takes_58 (fun r w1 hq => ?_)
      obtain ⟨rfl, rfl⟩ := hq
      refine bw_perm (ws1 := [(ah, .inr (5, [.ref ah_all, .ref ah_kept, .ref ah_history, .int vh_historyLong, .ref ah_slots, .ref ah_isSaved, .ref ah_words, .int vh_groups, .ref ah_left, .int vh_leftLong, .ref ah_seen, .ref ah_text, .int vh_textLong, .int vh_spot, .ref ah_signs, .ref ah_pauses, .int vh_read])), (ah_all, .inl (g.2.1, 120, .inl vh_all))]) (bw_pick1 2 [0, 1] rfl rfl (by decide)) ?_
      refine bw_st (st1 := [.int q_61, .ref ah_all]) rfl ?_
      refine bw_iload 0 dX5_takes_61 rfl ?_
      refine bw_bipush 99 dX5_takes_63 (by decide) ?_
      refine bw_icmp_le 73 dX5_takes_65 (by decide) (fun c_62 => ?_) (fun c_62 => ?_)
      · have hf := bw_pos c_62 hf
        refine bw_iload 0 dX5_takes_73 rfl ?_
        refine bw_bipush (-99) dX5_takes_75 (by decide) ?_
        refine bw_icmp_ge 85 dX5_takes_77 (by decide) (fun c_63 => ?_) (fun c_63 => ?_)
        · have hf := bw_pos c_63 hf
          refine bw_iload 0 dX5_takes_85 rfl ?_
          obtain ⟨h_64, hf⟩ := bw_chk hf
          refine bw_iast 1 ([(ah, .inr (5, [.ref ah_all, .ref ah_kept, .ref ah_history, .int vh_historyLong, .ref ah_slots, .ref ah_isSaved, .ref ah_words, .int vh_groups, .ref ah_left, .int vh_leftLong, .ref ah_seen, .ref ah_text, .int vh_textLong, .int vh_spot, .ref ah_signs, .ref ah_pauses, .int vh_read])), (ah_all, .inl (g.2.1, 120, .inl ((upd vh_all (Int32.toNatClampNeg q_61) (((vh_all (Int32.toNatClampNeg q_52)) + (2 * (vh_all (Int32.toNatClampNeg 1)))))))))]) rfl h_64 rfl dX5_takes_87 ?_
          cases Option.some.inj hf
          exact bw_vret rfl (Nat.le_of_ble_eq_true rfl) (Nat.le_of_ble_eq_true rfl) dX5_takes_88 ⟨rfl, rfl⟩
        · have hf := bw_neg c_63 hf
          refine bw_bipush (-99) dX5_takes_80 (by decide) ?_
          refine bw_goto 87 dX5_takes_82 (by decide) ?_
          obtain ⟨h_65, hf⟩ := bw_chk hf
          refine bw_iast 1 ([(ah, .inr (5, [.ref ah_all, .ref ah_kept, .ref ah_history, .int vh_historyLong, .ref ah_slots, .ref ah_isSaved, .ref ah_words, .int vh_groups, .ref ah_left, .int vh_leftLong, .ref ah_seen, .ref ah_text, .int vh_textLong, .int vh_spot, .ref ah_signs, .ref ah_pauses, .int vh_read])), (ah_all, .inl (g.2.1, 120, .inl ((upd vh_all (Int32.toNatClampNeg q_61) ((-99))))))]) rfl h_65 rfl dX5_takes_87 ?_
          cases Option.some.inj hf
          exact bw_vret rfl (Nat.le_of_ble_eq_true rfl) (Nat.le_of_ble_eq_true rfl) dX5_takes_88 ⟨rfl, rfl⟩
      · have hf := bw_neg c_62 hf
        refine bw_bipush 99 dX5_takes_68 (by decide) ?_
        refine bw_goto 87 dX5_takes_70 (by decide) ?_
        obtain ⟨h_66, hf⟩ := bw_chk hf
        refine bw_iast 1 ([(ah, .inr (5, [.ref ah_all, .ref ah_kept, .ref ah_history, .int vh_historyLong, .ref ah_slots, .ref ah_isSaved, .ref ah_words, .int vh_groups, .ref ah_left, .int vh_leftLong, .ref ah_seen, .ref ah_text, .int vh_textLong, .int vh_spot, .ref ah_signs, .ref ah_pauses, .int vh_read])), (ah_all, .inl (g.2.1, 120, .inl ((upd vh_all (Int32.toNatClampNeg q_61) 99))))]) rfl h_66 rfl dX5_takes_87 ?_
        cases Option.some.inj hf
        exact bw_vret rfl (Nat.le_of_ble_eq_true rfl) (Nat.le_of_ble_eq_true rfl) dX5_takes_88 ⟨rfl, rfl⟩
def f_X5_takesAll_L19 : Nat → (Int32) → (Int32) → (Nat → Int32) → (Nat → Int32) → (Nat → Int32) → (Int32) → (Int32) → (Int32) → (Int32) → Option (Int32 × (Int32) × (Int32) × (Nat → Int32) × (Nat → Int32) × (Nat → Int32))
  | 0, _, _, _, _, _, _, _, _, _ => none
  | fu + 1, vh_groups, vh_leftLong, vh_all, vh_words, vh_left, x1, x2, x3, x4 => (if x2 ≤ x4 then some (x3, vh_groups, vh_leftLong, vh_all, vh_words, vh_left) else (if bw_in ((3 * x4)) 24 then (if (vh_left (Int32.toNatClampNeg ((3 * x4)))) = x1 then (f_X5_takesAll_L19 fu vh_groups vh_leftLong vh_all vh_words vh_left x1 x2 x3 ((x4 + 1))) else (if bw_in ((3 * x4)) 24 then (if bw_in (((3 * x4) + 1)) 24 then (if bw_in (((3 * x4) + 2)) 24 then ((f_X5_takes vh_all x1 ((vh_left (Int32.toNatClampNeg ((3 * x4))))) ((vh_left (Int32.toNatClampNeg (((3 * x4) + 1))))) ((vh_left (Int32.toNatClampNeg (((3 * x4) + 2)))))).bind fun q_16 => (f_X5_takesAll_L19 fu vh_groups vh_leftLong q_16 vh_words vh_left x1 x2 ((x3 + 1)) ((x4 + 1)))) else none) else none) else none)) else none))
set_option maxHeartbeats 4000000 in
set_option maxRecDepth 100000 in
theorem s_X5_takesAll_L19 (l : Launch) (g : bwG) (ah ah_all ah_kept ah_history ah_slots ah_isSaved ah_words ah_left ah_seen ah_text ah_signs ah_pauses : Nat) (fu : Nat) : ∀ (vh_historyLong : Int32) (vh_groups : Int32) (vh_leftLong : Int32) (vh_textLong : Int32) (vh_spot : Int32) (vh_read : Int32) (vh_all : Nat → Int32) (vh_words : Nat → Int32) (vh_left : Nat → Int32) (x1 : Int32) (x2 : Int32) (x3 : Int32) (x4 : Int32) (res : Int32 × (Int32) × (Int32) × (Nat → Int32) × (Nat → Int32) × (Nat → Int32)), f_X5_takesAll_L19 fu vh_groups vh_leftLong vh_all vh_words vh_left x1 x2 x3 x4 = some res → bwR l g cX5_takesAll 5 RX5 "takesAll" (some .int) ({ frames := 5, cells := 0, slots := 0, locals := 110 } : Room) bwT (bwZ g (fun r w => r = some (.int res.1) ∧ w = [(ah, .inr (5, [.ref ah_all, .ref ah_kept, .ref ah_history, .int vh_historyLong, .ref ah_slots, .ref ah_isSaved, .ref ah_words, .int res.2.1, .ref ah_left, .int res.2.2.1, .ref ah_seen, .ref ah_text, .int vh_textLong, .int vh_spot, .ref ah_signs, .ref ah_pauses, .int vh_read])), (ah_all, .inl (g.2.1, 120, .inl res.2.2.2.1)), (ah_words, .inl (g.2.1, 24, .inl res.2.2.2.2.1)), (ah_left, .inl (g.2.1, 24, .inl res.2.2.2.2.2))]) 0 0) 19 [(0, .ref ah), (1, .int x1), (2, .int x2), (3, .int x3), (4, .int x4)] [] ([(ah, .inr (5, [.ref ah_all, .ref ah_kept, .ref ah_history, .int vh_historyLong, .ref ah_slots, .ref ah_isSaved, .ref ah_words, .int vh_groups, .ref ah_left, .int vh_leftLong, .ref ah_seen, .ref ah_text, .int vh_textLong, .int vh_spot, .ref ah_signs, .ref ah_pauses, .int vh_read])), (ah_all, .inl (g.2.1, 120, .inl vh_all)), (ah_words, .inl (g.2.1, 24, .inl vh_words)), (ah_left, .inl (g.2.1, 24, .inl vh_left))]) 0 0 := by
  induction fu with
  | zero => intro vh_historyLong vh_groups vh_leftLong vh_textLong vh_spot vh_read vh_all vh_words vh_left x1 x2 x3 x4 res hf; exact absurd hf (by intro h; cases h)
  | succ fu ih =>
    intro vh_historyLong vh_groups vh_leftLong vh_textLong vh_spot vh_read vh_all vh_words vh_left x1 x2 x3 x4 res hf
    rw [f_X5_takesAll_L19] at hf
    refine bw_iload 4 dX5_takesAll_19 rfl ?_
    refine bw_iload_n 2 dX5_takesAll_21 rfl rfl ?_
    refine bw_icmp_ge 83 dX5_takesAll_22 (by decide) (fun c_10 => ?_) (fun c_10 => ?_)
    · have hf := bw_pos c_10 hf
      refine bw_iload_n 3 dX5_takesAll_83 rfl rfl ?_
      cases Option.some.inj hf
      exact bw_ret rfl rfl (Nat.le_of_ble_eq_true rfl) (Nat.le_of_ble_eq_true rfl) dX5_takesAll_84 ⟨rfl, rfl⟩
    · have hf := bw_neg c_10 hf
      refine bw_aload_n 0 dX5_takesAll_25 rfl rfl ?_
      refine bw_gf bkX5 0 8 (by decide) fl_X5_28 rfl rfl dX5_takesAll_26 ?_
      refine bw_iconst 3 dX5_takesAll_29 (by decide) ?_
      refine bw_iload 4 dX5_takesAll_30 rfl ?_
      refine bw_imul dX5_takesAll_32 ?_
      obtain ⟨h_11, hf⟩ := bw_chk hf
      refine bw_iald 3 rfl h_11 dX5_takesAll_33 ?_
      refine bw_iload_n 1 dX5_takesAll_34 rfl rfl ?_
      refine bw_icmp_eq 77 dX5_takesAll_35 (by decide) (fun c_12 => ?_) (fun c_12 => ?_)
      · have hf := bw_pos c_12 hf
        refine bw_iinc 4 (x4 + 1) [(4, .int ((x4 + 1))), (0, .ref ah), (1, .int x1), (2, .int x2), (3, .int x3)] dX5_takesAll_77 rfl rfl (by decide) rfl ?_
        refine bw_goto 19 dX5_takesAll_80 (by decide) ?_
        refine bw_lv [1, 2, 3, 4, 0] rfl ?_
        exact ih vh_historyLong vh_groups vh_leftLong vh_textLong vh_spot vh_read vh_all vh_words vh_left x1 x2 x3 ((x4 + 1)) _ hf
      · have hf := bw_neg c_12 hf
        refine bw_aload_n 0 dX5_takesAll_38 rfl rfl ?_
        refine bw_iload_n 1 dX5_takesAll_39 rfl rfl ?_
        refine bw_aload_n 0 dX5_takesAll_40 rfl rfl ?_
        refine bw_gf bkX5 0 8 (by decide) fl_X5_28 rfl rfl dX5_takesAll_41 ?_
        refine bw_iconst 3 dX5_takesAll_44 (by decide) ?_
        refine bw_iload 4 dX5_takesAll_45 rfl ?_
        refine bw_imul dX5_takesAll_47 ?_
        obtain ⟨h_13, hf⟩ := bw_chk hf
        refine bw_iald 3 rfl h_13 dX5_takesAll_48 ?_
        refine bw_aload_n 0 dX5_takesAll_49 rfl rfl ?_
        refine bw_gf bkX5 0 8 (by decide) fl_X5_28 rfl rfl dX5_takesAll_50 ?_
        refine bw_iconst 3 dX5_takesAll_53 (by decide) ?_
        refine bw_iload 4 dX5_takesAll_54 rfl ?_
        refine bw_imul dX5_takesAll_56 ?_
        refine bw_iconst 1 dX5_takesAll_57 (by decide) ?_
        refine bw_iadd dX5_takesAll_58 ?_
        obtain ⟨h_14, hf⟩ := bw_chk hf
        refine bw_iald 3 rfl h_14 dX5_takesAll_59 ?_
        refine bw_aload_n 0 dX5_takesAll_60 rfl rfl ?_
        refine bw_gf bkX5 0 8 (by decide) fl_X5_28 rfl rfl dX5_takesAll_61 ?_
        refine bw_iconst 3 dX5_takesAll_64 (by decide) ?_
        refine bw_iload 4 dX5_takesAll_65 rfl ?_
        refine bw_imul dX5_takesAll_67 ?_
        refine bw_iconst 2 dX5_takesAll_68 (by decide) ?_
        refine bw_iadd dX5_takesAll_69 ?_
        obtain ⟨h_15, hf⟩ := bw_chk hf
        refine bw_iald 3 rfl h_15 dX5_takesAll_70 ?_
        obtain ⟨q_16, hc_16, hf⟩ := bw_bind hf
        refine bw_callV [.int x1, .int ((vh_left (Int32.toNatClampNeg ((3 * x4))))), .int ((vh_left (Int32.toNatClampNeg (((3 * x4) + 1))))), .int ((vh_left (Int32.toNatClampNeg (((3 * x4) + 2)))))] [] [(ah_words, .inl (g.2.1, 24, .inl vh_words)), (ah_left, .inl (g.2.1, 24, .inl vh_left))] 0 5 (s_X5_takes l g ah ah_all ah_kept ah_history ah_slots ah_isSaved ah_words ah_left ah_seen ah_text ah_signs ah_pauses vh_historyLong vh_groups vh_leftLong vh_textLong vh_spot vh_read vh_all x1 ((vh_left (Int32.toNatClampNeg ((3 * x4))))) ((vh_left (Int32.toNatClampNeg (((3 * x4) + 1))))) ((vh_left (Int32.toNatClampNeg (((3 * x4) + 2))))) _ hc_16) rfl co_X5_takes ini_X5 ml_X5_106 im_X5_takes se_X5_takes ar_X5_takes ⟨Nat.le_of_ble_eq_true rfl, Nat.le_of_ble_eq_true rfl⟩ ⟨Nat.le_of_ble_eq_true rfl, Nat.le_of_ble_eq_true rfl⟩ rfl rfl (bw_pick1 4 [0, 1, 2, 3] rfl rfl (by decide)) (Nat.le_of_ble_eq_true rfl) dX5_takesAll_71 (fun r w1 hq => ?_)
        obtain ⟨rfl, rfl⟩ := hq
        refine bw_perm (ws1 := [(ah, .inr (5, [.ref ah_all, .ref ah_kept, .ref ah_history, .int vh_historyLong, .ref ah_slots, .ref ah_isSaved, .ref ah_words, .int vh_groups, .ref ah_left, .int vh_leftLong, .ref ah_seen, .ref ah_text, .int vh_textLong, .int vh_spot, .ref ah_signs, .ref ah_pauses, .int vh_read])), (ah_all, .inl (g.2.1, 120, .inl q_16)), (ah_words, .inl (g.2.1, 24, .inl vh_words)), (ah_left, .inl (g.2.1, 24, .inl vh_left))]) (bw_pick1 4 [2, 3, 0, 1] rfl rfl (by decide)) ?_
        refine bw_st (st1 := []) rfl ?_
        refine bw_iinc 3 (x3 + 1) [(3, .int ((x3 + 1))), (0, .ref ah), (1, .int x1), (2, .int x2), (4, .int x4)] dX5_takesAll_74 rfl rfl (by decide) rfl ?_
        refine bw_iinc 4 (x4 + 1) [(4, .int ((x4 + 1))), (3, .int ((x3 + 1))), (0, .ref ah), (1, .int x1), (2, .int x2)] dX5_takesAll_77 rfl rfl (by decide) rfl ?_
        refine bw_goto 19 dX5_takesAll_80 (by decide) ?_
        refine bw_lv [2, 3, 4, 1, 0] rfl ?_
        exact ih vh_historyLong vh_groups vh_leftLong vh_textLong vh_spot vh_read q_16 vh_words vh_left x1 x2 ((x3 + 1)) ((x4 + 1)) _ hf
theorem ar_X5_takesAll : yX5_takesAll.cls ≠ "java/lang/invoke/MethodHandle" ∧ yX5_takesAll.cls ≠ "java/lang/invoke/VarHandle" ∧ (parseMethodDescriptor yX5_takesAll.desc).map (fun d => d.parameters.length) = some 1 := ⟨by decide, by decide, by decide +kernel⟩
def f_X5_takesAll (vh_groups : Int32) (vh_leftLong : Int32) (vh_all : Nat → Int32) (vh_words : Nat → Int32) (vh_left : Nat → Int32) (p0 : Int32) : Option (Int32 × (Int32) × (Int32) × (Nat → Int32) × (Nat → Int32) × (Nat → Int32)) := (if bw_in ((6 + p0)) 120 then ((f_X5_sentences vh_groups vh_leftLong vh_all vh_words vh_left ((vh_all (Int32.toNatClampNeg ((6 + p0)))))).bind fun q_18 => (f_X5_takesAll_L19 bw_F q_18.2.1 q_18.2.2.1 vh_all q_18.2.2.2.1 q_18.2.2.2.2 p0 q_18.1 0 0)) else none)
set_option maxHeartbeats 4000000 in
set_option maxRecDepth 100000 in
theorem s_X5_takesAll (l : Launch) (g : bwG) (ah ah_all ah_kept ah_history ah_slots ah_isSaved ah_words ah_left ah_seen ah_text ah_signs ah_pauses : Nat) (vh_historyLong : Int32) (vh_groups : Int32) (vh_leftLong : Int32) (vh_textLong : Int32) (vh_spot : Int32) (vh_read : Int32) (vh_all : Nat → Int32) (vh_words : Nat → Int32) (vh_left : Nat → Int32) (p0 : Int32) (res : Int32 × (Int32) × (Int32) × (Nat → Int32) × (Nat → Int32) × (Nat → Int32)) (hf : f_X5_takesAll vh_groups vh_leftLong vh_all vh_words vh_left p0 = some res) : bwS l g yX5_takesAll cX5_takesAll 5 (some .int) ({ frames := 5, cells := 0, slots := 0, locals := 110 } : Room) [.ref ah, .int p0] ([(ah, .inr (5, [.ref ah_all, .ref ah_kept, .ref ah_history, .int vh_historyLong, .ref ah_slots, .ref ah_isSaved, .ref ah_words, .int vh_groups, .ref ah_left, .int vh_leftLong, .ref ah_seen, .ref ah_text, .int vh_textLong, .int vh_spot, .ref ah_signs, .ref ah_pauses, .int vh_read])), (ah_all, .inl (g.2.1, 120, .inl vh_all)), (ah_words, .inl (g.2.1, 24, .inl vh_words)), (ah_left, .inl (g.2.1, 24, .inl vh_left))]) (fun r w => r = some (.int res.1) ∧ w = [(ah, .inr (5, [.ref ah_all, .ref ah_kept, .ref ah_history, .int vh_historyLong, .ref ah_slots, .ref ah_isSaved, .ref ah_words, .int res.2.1, .ref ah_left, .int res.2.2.1, .ref ah_seen, .ref ah_text, .int vh_textLong, .int vh_spot, .ref ah_signs, .ref ah_pauses, .int vh_read])), (ah_all, .inl (g.2.1, 120, .inl res.2.2.2.1)), (ah_words, .inl (g.2.1, 24, .inl res.2.2.2.2.1)), (ah_left, .inl (g.2.1, 24, .inl res.2.2.2.2.2))]) := by
  refine bwS_of (by decide) (Nat.le_of_ble_eq_true rfl) ?_
  unfold f_X5_takesAll at hf
  show bwR l g cX5_takesAll 5 RX5 "takesAll" (some .int) ({ frames := 5, cells := 0, slots := 0, locals := 110 } : Room) bwT (bwZ g (fun r w => r = some (.int res.1) ∧ w = [(ah, .inr (5, [.ref ah_all, .ref ah_kept, .ref ah_history, .int vh_historyLong, .ref ah_slots, .ref ah_isSaved, .ref ah_words, .int res.2.1, .ref ah_left, .int res.2.2.1, .ref ah_seen, .ref ah_text, .int vh_textLong, .int vh_spot, .ref ah_signs, .ref ah_pauses, .int vh_read])), (ah_all, .inl (g.2.1, 120, .inl res.2.2.2.1)), (ah_words, .inl (g.2.1, 24, .inl res.2.2.2.2.1)), (ah_left, .inl (g.2.1, 24, .inl res.2.2.2.2.2))]) 0 0) 0 [(0, .ref ah), (1, .int p0)] [] ([(ah, .inr (5, [.ref ah_all, .ref ah_kept, .ref ah_history, .int vh_historyLong, .ref ah_slots, .ref ah_isSaved, .ref ah_words, .int vh_groups, .ref ah_left, .int vh_leftLong, .ref ah_seen, .ref ah_text, .int vh_textLong, .int vh_spot, .ref ah_signs, .ref ah_pauses, .int vh_read])), (ah_all, .inl (g.2.1, 120, .inl vh_all)), (ah_words, .inl (g.2.1, 24, .inl vh_words)), (ah_left, .inl (g.2.1, 24, .inl vh_left))]) 0 0
  refine bw_aload_n 0 dX5_takesAll_0 rfl rfl ?_
  refine bw_aload_n 0 dX5_takesAll_1 rfl rfl ?_
  refine bw_gf bkX5 0 0 (by decide) fl_X5_7 rfl rfl dX5_takesAll_2 ?_
  refine bw_bipush 6 dX5_takesAll_5 (by decide) ?_
  refine bw_iload_n 1 dX5_takesAll_7 rfl rfl ?_
  refine bw_iadd dX5_takesAll_8 ?_
  obtain ⟨h_17, hf⟩ := bw_chk hf
  refine bw_iald 1 rfl h_17 dX5_takesAll_9 ?_
  obtain ⟨q_18, hc_18, hf⟩ := bw_bind hf
  refine bw_callV [.int ((vh_all (Int32.toNatClampNeg ((6 + p0)))))] [] [] 0 5 (s_X5_sentences l g ah ah_all ah_kept ah_history ah_slots ah_isSaved ah_words ah_left ah_seen ah_text ah_signs ah_pauses vh_historyLong vh_groups vh_leftLong vh_textLong vh_spot vh_read vh_all vh_words vh_left ((vh_all (Int32.toNatClampNeg ((6 + p0))))) _ hc_18) rfl co_X5_sentences ini_X5 ml_X5_102 im_X5_sentences se_X5_sentences ar_X5_sentences ⟨Nat.le_of_ble_eq_true rfl, Nat.le_of_ble_eq_true rfl⟩ ⟨Nat.le_of_ble_eq_true rfl, Nat.le_of_ble_eq_true rfl⟩ rfl rfl (bw_pick1 4 [0, 1, 2, 3] rfl rfl (by decide)) (Nat.le_of_ble_eq_true rfl) dX5_takesAll_10 (fun r w1 hq => ?_)
  obtain ⟨rfl, rfl⟩ := hq
  refine bw_perm (ws1 := [(ah, .inr (5, [.ref ah_all, .ref ah_kept, .ref ah_history, .int vh_historyLong, .ref ah_slots, .ref ah_isSaved, .ref ah_words, .int q_18.2.1, .ref ah_left, .int q_18.2.2.1, .ref ah_seen, .ref ah_text, .int vh_textLong, .int vh_spot, .ref ah_signs, .ref ah_pauses, .int vh_read])), (ah_all, .inl (g.2.1, 120, .inl vh_all)), (ah_words, .inl (g.2.1, 24, .inl q_18.2.2.2.1)), (ah_left, .inl (g.2.1, 24, .inl q_18.2.2.2.2))]) (bw_pick1 4 [0, 1, 2, 3] rfl rfl (by decide)) ?_
  refine bw_st (st1 := [.int q_18.1]) rfl ?_
  refine bw_istore_n [(2, .int q_18.1), (0, .ref ah), (1, .int p0)] dX5_takesAll_13 rfl (by decide) rfl ?_
  refine bw_iconst 0 dX5_takesAll_14 (by decide) ?_
  refine bw_istore_n [(3, .int 0), (2, .int q_18.1), (0, .ref ah), (1, .int p0)] dX5_takesAll_15 rfl (by decide) rfl ?_
  refine bw_iconst 0 dX5_takesAll_16 (by decide) ?_
  refine bw_istore [(4, .int 0), (3, .int 0), (2, .int q_18.1), (0, .ref ah), (1, .int p0)] dX5_takesAll_17 (by decide) rfl ?_
  refine bw_lv [3, 4, 2, 1, 0] rfl ?_
  exact s_X5_takesAll_L19 l g ah ah_all ah_kept ah_history ah_slots ah_isSaved ah_words ah_left ah_seen ah_text ah_signs ah_pauses bw_F vh_historyLong q_18.2.1 q_18.2.2.1 vh_textLong vh_spot vh_read vh_all q_18.2.2.2.1 q_18.2.2.2.2 p0 q_18.1 0 0 _ hf
def f_X5_hushes_L3 : Nat → (Nat → Int32) → (Int32) → Option ((Nat → Int32))
  | 0, _, _ => none
  | fu + 1, vh_all, x1 => (if 120 ≤ x1 then (if bw_in 3 120 then some (upd vh_all (Int32.toNatClampNeg 3) 0) else none) else (if bw_in x1 120 then (f_X5_hushes_L3 fu ((upd vh_all (Int32.toNatClampNeg x1) 0)) ((x1 + 1))) else none))
set_option maxHeartbeats 4000000 in
set_option maxRecDepth 100000 in
theorem s_X5_hushes_L3 (l : Launch) (g : bwG) (ah ah_all ah_kept ah_history ah_slots ah_isSaved ah_words ah_left ah_seen ah_text ah_signs ah_pauses : Nat) (fu : Nat) : ∀ (vh_historyLong : Int32) (vh_groups : Int32) (vh_leftLong : Int32) (vh_textLong : Int32) (vh_spot : Int32) (vh_read : Int32) (vh_all : Nat → Int32) (x1 : Int32) (res : (Nat → Int32)), f_X5_hushes_L3 fu vh_all x1 = some res → bwR l g cX5_hushes 2 RX5 "hushes" none ({ frames := 0, cells := 0, slots := 0, locals := 0 } : Room) bwT (bwZ g (fun r w => r = none ∧ w = [(ah, .inr (5, [.ref ah_all, .ref ah_kept, .ref ah_history, .int vh_historyLong, .ref ah_slots, .ref ah_isSaved, .ref ah_words, .int vh_groups, .ref ah_left, .int vh_leftLong, .ref ah_seen, .ref ah_text, .int vh_textLong, .int vh_spot, .ref ah_signs, .ref ah_pauses, .int vh_read])), (ah_all, .inl (g.2.1, 120, .inl res))]) 0 0) 3 [(0, .ref ah), (1, .int x1)] [] ([(ah, .inr (5, [.ref ah_all, .ref ah_kept, .ref ah_history, .int vh_historyLong, .ref ah_slots, .ref ah_isSaved, .ref ah_words, .int vh_groups, .ref ah_left, .int vh_leftLong, .ref ah_seen, .ref ah_text, .int vh_textLong, .int vh_spot, .ref ah_signs, .ref ah_pauses, .int vh_read])), (ah_all, .inl (g.2.1, 120, .inl vh_all))]) 0 0 := by
  induction fu with
  | zero => intro vh_historyLong vh_groups vh_leftLong vh_textLong vh_spot vh_read vh_all x1 res hf; exact absurd hf (by intro h; cases h)
  | succ fu ih =>
    intro vh_historyLong vh_groups vh_leftLong vh_textLong vh_spot vh_read vh_all x1 res hf
    rw [f_X5_hushes_L3] at hf
    refine bw_iload_n 1 dX5_hushes_3 rfl rfl ?_
    refine bw_bipush 120 dX5_hushes_4 (by decide) ?_
    refine bw_icmp_ge 22 dX5_hushes_6 (by decide) (fun c_4 => ?_) (fun c_4 => ?_)
    · have hf := bw_pos c_4 hf
      refine bw_aload_n 0 dX5_hushes_22 rfl rfl ?_
      refine bw_gf bkX5 0 0 (by decide) fl_X5_7 rfl rfl dX5_hushes_23 ?_
      refine bw_iconst 3 dX5_hushes_26 (by decide) ?_
      refine bw_iconst 0 dX5_hushes_27 (by decide) ?_
      obtain ⟨h_5, hf⟩ := bw_chk hf
      refine bw_iast 1 ([(ah, .inr (5, [.ref ah_all, .ref ah_kept, .ref ah_history, .int vh_historyLong, .ref ah_slots, .ref ah_isSaved, .ref ah_words, .int vh_groups, .ref ah_left, .int vh_leftLong, .ref ah_seen, .ref ah_text, .int vh_textLong, .int vh_spot, .ref ah_signs, .ref ah_pauses, .int vh_read])), (ah_all, .inl (g.2.1, 120, .inl ((upd vh_all (Int32.toNatClampNeg 3) 0))))]) rfl h_5 rfl dX5_hushes_28 ?_
      cases Option.some.inj hf
      exact bw_vret rfl (Nat.le_of_ble_eq_true rfl) (Nat.le_of_ble_eq_true rfl) dX5_hushes_29 ⟨rfl, rfl⟩
    · have hf := bw_neg c_4 hf
      refine bw_aload_n 0 dX5_hushes_9 rfl rfl ?_
      refine bw_gf bkX5 0 0 (by decide) fl_X5_7 rfl rfl dX5_hushes_10 ?_
      refine bw_iload_n 1 dX5_hushes_13 rfl rfl ?_
      refine bw_iconst 0 dX5_hushes_14 (by decide) ?_
      obtain ⟨h_6, hf⟩ := bw_chk hf
      refine bw_iast 1 ([(ah, .inr (5, [.ref ah_all, .ref ah_kept, .ref ah_history, .int vh_historyLong, .ref ah_slots, .ref ah_isSaved, .ref ah_words, .int vh_groups, .ref ah_left, .int vh_leftLong, .ref ah_seen, .ref ah_text, .int vh_textLong, .int vh_spot, .ref ah_signs, .ref ah_pauses, .int vh_read])), (ah_all, .inl (g.2.1, 120, .inl ((upd vh_all (Int32.toNatClampNeg x1) 0))))]) rfl h_6 rfl dX5_hushes_15 ?_
      refine bw_iinc 1 (x1 + 1) [(1, .int ((x1 + 1))), (0, .ref ah)] dX5_hushes_16 rfl rfl (by decide) rfl ?_
      refine bw_goto 3 dX5_hushes_19 (by decide) ?_
      refine bw_lv [1, 0] rfl ?_
      exact ih vh_historyLong vh_groups vh_leftLong vh_textLong vh_spot vh_read ((upd vh_all (Int32.toNatClampNeg x1) 0)) ((x1 + 1)) _ hf
theorem ar_X5_hushes : yX5_hushes.cls ≠ "java/lang/invoke/MethodHandle" ∧ yX5_hushes.cls ≠ "java/lang/invoke/VarHandle" ∧ (parseMethodDescriptor yX5_hushes.desc).map (fun d => d.parameters.length) = some 0 := ⟨by decide, by decide, by decide +kernel⟩
def f_X5_hushes (vh_all : Nat → Int32)  : Option ((Nat → Int32)) := (f_X5_hushes_L3 bw_F vh_all 48)
set_option maxHeartbeats 4000000 in
set_option maxRecDepth 100000 in
theorem s_X5_hushes (l : Launch) (g : bwG) (ah ah_all ah_kept ah_history ah_slots ah_isSaved ah_words ah_left ah_seen ah_text ah_signs ah_pauses : Nat) (vh_historyLong : Int32) (vh_groups : Int32) (vh_leftLong : Int32) (vh_textLong : Int32) (vh_spot : Int32) (vh_read : Int32) (vh_all : Nat → Int32)  (res : (Nat → Int32)) (hf : f_X5_hushes vh_all  = some res) : bwS l g yX5_hushes cX5_hushes 2 none ({ frames := 0, cells := 0, slots := 0, locals := 0 } : Room) [.ref ah] ([(ah, .inr (5, [.ref ah_all, .ref ah_kept, .ref ah_history, .int vh_historyLong, .ref ah_slots, .ref ah_isSaved, .ref ah_words, .int vh_groups, .ref ah_left, .int vh_leftLong, .ref ah_seen, .ref ah_text, .int vh_textLong, .int vh_spot, .ref ah_signs, .ref ah_pauses, .int vh_read])), (ah_all, .inl (g.2.1, 120, .inl vh_all))]) (fun r w => r = none ∧ w = [(ah, .inr (5, [.ref ah_all, .ref ah_kept, .ref ah_history, .int vh_historyLong, .ref ah_slots, .ref ah_isSaved, .ref ah_words, .int vh_groups, .ref ah_left, .int vh_leftLong, .ref ah_seen, .ref ah_text, .int vh_textLong, .int vh_spot, .ref ah_signs, .ref ah_pauses, .int vh_read])), (ah_all, .inl (g.2.1, 120, .inl res))]) := by
  refine bwS_of (by decide) (Nat.le_of_ble_eq_true rfl) ?_
  unfold f_X5_hushes at hf
  show bwR l g cX5_hushes 2 RX5 "hushes" none ({ frames := 0, cells := 0, slots := 0, locals := 0 } : Room) bwT (bwZ g (fun r w => r = none ∧ w = [(ah, .inr (5, [.ref ah_all, .ref ah_kept, .ref ah_history, .int vh_historyLong, .ref ah_slots, .ref ah_isSaved, .ref ah_words, .int vh_groups, .ref ah_left, .int vh_leftLong, .ref ah_seen, .ref ah_text, .int vh_textLong, .int vh_spot, .ref ah_signs, .ref ah_pauses, .int vh_read])), (ah_all, .inl (g.2.1, 120, .inl res))]) 0 0) 0 [(0, .ref ah)] [] ([(ah, .inr (5, [.ref ah_all, .ref ah_kept, .ref ah_history, .int vh_historyLong, .ref ah_slots, .ref ah_isSaved, .ref ah_words, .int vh_groups, .ref ah_left, .int vh_leftLong, .ref ah_seen, .ref ah_text, .int vh_textLong, .int vh_spot, .ref ah_signs, .ref ah_pauses, .int vh_read])), (ah_all, .inl (g.2.1, 120, .inl vh_all))]) 0 0
  refine bw_bipush 48 dX5_hushes_0 (by decide) ?_
  refine bw_istore_n [(1, .int 48), (0, .ref ah)] dX5_hushes_2 rfl (by decide) rfl ?_
  refine bw_lv [1, 0] rfl ?_
  exact s_X5_hushes_L3 l g ah ah_all ah_kept ah_history ah_slots ah_isSaved ah_words ah_left ah_seen ah_text ah_signs ah_pauses bw_F vh_historyLong vh_groups vh_leftLong vh_textLong vh_spot vh_read vh_all 48 _ hf
def f_X5_gives_L4 : Nat → (Int32) → (Int32) → (Nat → Int32) → (Nat → Int32) → (Nat → Int32) → (Int32) → (Int32) → Option (Int32 × (Int32) × (Int32) × (Nat → Int32) × (Nat → Int32) × (Nat → Int32))
  | 0, _, _, _, _, _, _, _ => none
  | fu + 1, vh_groups, vh_leftLong, vh_all, vh_words, vh_left, x1, x2 => (if 6 ≤ x2 then (if bw_in 4 120 then (if bw_in 4 120 then (if bw_in 5 120 then (if bw_in 5 120 then ((f_X5_hushes ((upd ((upd vh_all (Int32.toNatClampNeg 4) (((vh_all (Int32.toNatClampNeg 4)) + 1)))) (Int32.toNatClampNeg 5) (((((upd vh_all (Int32.toNatClampNeg 4) (((vh_all (Int32.toNatClampNeg 4)) + 1)))) (Int32.toNatClampNeg 5)) + x1))))).bind fun q_13 => some (x1, vh_groups, vh_leftLong, q_13, vh_words, vh_left)) else none) else none) else none) else none) else ((f_X5_takesAll vh_groups vh_leftLong vh_all vh_words vh_left x2).bind fun q_14 => (f_X5_gives_L4 fu q_14.2.1 q_14.2.2.1 q_14.2.2.2.1 q_14.2.2.2.2.1 q_14.2.2.2.2.2 ((x1 + q_14.1)) ((x2 + 1)))))
set_option maxHeartbeats 4000000 in
set_option maxRecDepth 100000 in
theorem s_X5_gives_L4 (l : Launch) (g : bwG) (ah ah_all ah_kept ah_history ah_slots ah_isSaved ah_words ah_left ah_seen ah_text ah_signs ah_pauses : Nat) (fu : Nat) : ∀ (vh_historyLong : Int32) (vh_groups : Int32) (vh_leftLong : Int32) (vh_textLong : Int32) (vh_spot : Int32) (vh_read : Int32) (vh_all : Nat → Int32) (vh_words : Nat → Int32) (vh_left : Nat → Int32) (x1 : Int32) (x2 : Int32) (res : Int32 × (Int32) × (Int32) × (Nat → Int32) × (Nat → Int32) × (Nat → Int32)), f_X5_gives_L4 fu vh_groups vh_leftLong vh_all vh_words vh_left x1 x2 = some res → bwR l g cX5_gives 3 RX5 "gives" (some .int) ({ frames := 6, cells := 0, slots := 0, locals := 134 } : Room) bwT (bwZ g (fun r w => r = some (.int res.1) ∧ w = [(ah, .inr (5, [.ref ah_all, .ref ah_kept, .ref ah_history, .int vh_historyLong, .ref ah_slots, .ref ah_isSaved, .ref ah_words, .int res.2.1, .ref ah_left, .int res.2.2.1, .ref ah_seen, .ref ah_text, .int vh_textLong, .int vh_spot, .ref ah_signs, .ref ah_pauses, .int vh_read])), (ah_all, .inl (g.2.1, 120, .inl res.2.2.2.1)), (ah_words, .inl (g.2.1, 24, .inl res.2.2.2.2.1)), (ah_left, .inl (g.2.1, 24, .inl res.2.2.2.2.2))]) 0 0) 4 [(0, .ref ah), (1, .int x1), (2, .int x2)] [] ([(ah, .inr (5, [.ref ah_all, .ref ah_kept, .ref ah_history, .int vh_historyLong, .ref ah_slots, .ref ah_isSaved, .ref ah_words, .int vh_groups, .ref ah_left, .int vh_leftLong, .ref ah_seen, .ref ah_text, .int vh_textLong, .int vh_spot, .ref ah_signs, .ref ah_pauses, .int vh_read])), (ah_all, .inl (g.2.1, 120, .inl vh_all)), (ah_words, .inl (g.2.1, 24, .inl vh_words)), (ah_left, .inl (g.2.1, 24, .inl vh_left))]) 0 0 := by
  induction fu with
  | zero => intro vh_historyLong vh_groups vh_leftLong vh_textLong vh_spot vh_read vh_all vh_words vh_left x1 x2 res hf; exact absurd hf (by intro h; cases h)
  | succ fu ih =>
    intro vh_historyLong vh_groups vh_leftLong vh_textLong vh_spot vh_read vh_all vh_words vh_left x1 x2 res hf
    rw [f_X5_gives_L4] at hf
    refine bw_iload_n 2 dX5_gives_4 rfl rfl ?_
    refine bw_bipush 6 dX5_gives_5 (by decide) ?_
    refine bw_icmp_ge 24 dX5_gives_7 (by decide) (fun c_8 => ?_) (fun c_8 => ?_)
    · have hf := bw_pos c_8 hf
      refine bw_aload_n 0 dX5_gives_24 rfl rfl ?_
      refine bw_gf bkX5 0 0 (by decide) fl_X5_7 rfl rfl dX5_gives_25 ?_
      refine bw_iconst 4 dX5_gives_28 (by decide) ?_
      refine bw_dup2_11 dX5_gives_29 rfl rfl ?_
      obtain ⟨h_9, hf⟩ := bw_chk hf
      refine bw_iald 1 rfl h_9 dX5_gives_30 ?_
      refine bw_iconst 1 dX5_gives_31 (by decide) ?_
      refine bw_iadd dX5_gives_32 ?_
      obtain ⟨h_10, hf⟩ := bw_chk hf
      refine bw_iast 1 ([(ah, .inr (5, [.ref ah_all, .ref ah_kept, .ref ah_history, .int vh_historyLong, .ref ah_slots, .ref ah_isSaved, .ref ah_words, .int vh_groups, .ref ah_left, .int vh_leftLong, .ref ah_seen, .ref ah_text, .int vh_textLong, .int vh_spot, .ref ah_signs, .ref ah_pauses, .int vh_read])), (ah_all, .inl (g.2.1, 120, .inl ((upd vh_all (Int32.toNatClampNeg 4) (((vh_all (Int32.toNatClampNeg 4)) + 1)))))), (ah_words, .inl (g.2.1, 24, .inl vh_words)), (ah_left, .inl (g.2.1, 24, .inl vh_left))]) rfl h_10 rfl dX5_gives_33 ?_
      refine bw_aload_n 0 dX5_gives_34 rfl rfl ?_
      refine bw_gf bkX5 0 0 (by decide) fl_X5_7 rfl rfl dX5_gives_35 ?_
      refine bw_iconst 5 dX5_gives_38 (by decide) ?_
      refine bw_dup2_11 dX5_gives_39 rfl rfl ?_
      obtain ⟨h_11, hf⟩ := bw_chk hf
      refine bw_iald 1 rfl h_11 dX5_gives_40 ?_
      refine bw_iload_n 1 dX5_gives_41 rfl rfl ?_
      refine bw_iadd dX5_gives_42 ?_
      obtain ⟨h_12, hf⟩ := bw_chk hf
      refine bw_iast 1 ([(ah, .inr (5, [.ref ah_all, .ref ah_kept, .ref ah_history, .int vh_historyLong, .ref ah_slots, .ref ah_isSaved, .ref ah_words, .int vh_groups, .ref ah_left, .int vh_leftLong, .ref ah_seen, .ref ah_text, .int vh_textLong, .int vh_spot, .ref ah_signs, .ref ah_pauses, .int vh_read])), (ah_all, .inl (g.2.1, 120, .inl ((upd ((upd vh_all (Int32.toNatClampNeg 4) (((vh_all (Int32.toNatClampNeg 4)) + 1)))) (Int32.toNatClampNeg 5) (((((upd vh_all (Int32.toNatClampNeg 4) (((vh_all (Int32.toNatClampNeg 4)) + 1)))) (Int32.toNatClampNeg 5)) + x1)))))), (ah_words, .inl (g.2.1, 24, .inl vh_words)), (ah_left, .inl (g.2.1, 24, .inl vh_left))]) rfl h_12 rfl dX5_gives_43 ?_
      refine bw_aload_n 0 dX5_gives_44 rfl rfl ?_
      obtain ⟨q_13, hc_13, hf⟩ := bw_bind hf
      refine bw_callV [] [] [(ah_words, .inl (g.2.1, 24, .inl vh_words)), (ah_left, .inl (g.2.1, 24, .inl vh_left))] 0 5 (s_X5_hushes l g ah ah_all ah_kept ah_history ah_slots ah_isSaved ah_words ah_left ah_seen ah_text ah_signs ah_pauses vh_historyLong vh_groups vh_leftLong vh_textLong vh_spot vh_read ((upd ((upd vh_all (Int32.toNatClampNeg 4) (((vh_all (Int32.toNatClampNeg 4)) + 1)))) (Int32.toNatClampNeg 5) (((((upd vh_all (Int32.toNatClampNeg 4) (((vh_all (Int32.toNatClampNeg 4)) + 1)))) (Int32.toNatClampNeg 5)) + x1))))  _ hc_13) rfl co_X5_hushes ini_X5 ml_X5_113 im_X5_hushes se_X5_hushes ar_X5_hushes ⟨Nat.le_of_ble_eq_true rfl, Nat.le_of_ble_eq_true rfl⟩ ⟨Nat.le_of_ble_eq_true rfl, Nat.le_of_ble_eq_true rfl⟩ rfl rfl (bw_pick1 4 [0, 1, 2, 3] rfl rfl (by decide)) (Nat.le_of_ble_eq_true rfl) dX5_gives_45 (fun r w1 hq => ?_)
      obtain ⟨rfl, rfl⟩ := hq
      refine bw_perm (ws1 := [(ah, .inr (5, [.ref ah_all, .ref ah_kept, .ref ah_history, .int vh_historyLong, .ref ah_slots, .ref ah_isSaved, .ref ah_words, .int vh_groups, .ref ah_left, .int vh_leftLong, .ref ah_seen, .ref ah_text, .int vh_textLong, .int vh_spot, .ref ah_signs, .ref ah_pauses, .int vh_read])), (ah_all, .inl (g.2.1, 120, .inl q_13)), (ah_words, .inl (g.2.1, 24, .inl vh_words)), (ah_left, .inl (g.2.1, 24, .inl vh_left))]) (bw_pick1 4 [2, 3, 0, 1] rfl rfl (by decide)) ?_
      refine bw_st (st1 := []) rfl ?_
      refine bw_iload_n 1 dX5_gives_48 rfl rfl ?_
      cases Option.some.inj hf
      exact bw_ret rfl rfl (Nat.le_of_ble_eq_true rfl) (Nat.le_of_ble_eq_true rfl) dX5_gives_49 ⟨rfl, rfl⟩
    · have hf := bw_neg c_8 hf
      refine bw_iload_n 1 dX5_gives_10 rfl rfl ?_
      refine bw_aload_n 0 dX5_gives_11 rfl rfl ?_
      refine bw_iload_n 2 dX5_gives_12 rfl rfl ?_
      obtain ⟨q_14, hc_14, hf⟩ := bw_bind hf
      refine bw_callV [.int x2] [.int x1] [] 0 5 (s_X5_takesAll l g ah ah_all ah_kept ah_history ah_slots ah_isSaved ah_words ah_left ah_seen ah_text ah_signs ah_pauses vh_historyLong vh_groups vh_leftLong vh_textLong vh_spot vh_read vh_all vh_words vh_left x2 _ hc_14) rfl co_X5_takesAll ini_X5 ml_X5_110 im_X5_takesAll se_X5_takesAll ar_X5_takesAll ⟨Nat.le_of_ble_eq_true rfl, Nat.le_of_ble_eq_true rfl⟩ ⟨Nat.le_of_ble_eq_true rfl, Nat.le_of_ble_eq_true rfl⟩ rfl rfl (bw_pick1 4 [0, 1, 2, 3] rfl rfl (by decide)) (Nat.le_of_ble_eq_true rfl) dX5_gives_13 (fun r w1 hq => ?_)
      obtain ⟨rfl, rfl⟩ := hq
      refine bw_perm (ws1 := [(ah, .inr (5, [.ref ah_all, .ref ah_kept, .ref ah_history, .int vh_historyLong, .ref ah_slots, .ref ah_isSaved, .ref ah_words, .int q_14.2.1, .ref ah_left, .int q_14.2.2.1, .ref ah_seen, .ref ah_text, .int vh_textLong, .int vh_spot, .ref ah_signs, .ref ah_pauses, .int vh_read])), (ah_all, .inl (g.2.1, 120, .inl q_14.2.2.2.1)), (ah_words, .inl (g.2.1, 24, .inl q_14.2.2.2.2.1)), (ah_left, .inl (g.2.1, 24, .inl q_14.2.2.2.2.2))]) (bw_pick1 4 [0, 1, 2, 3] rfl rfl (by decide)) ?_
      refine bw_st (st1 := [.int q_14.1, .int x1]) rfl ?_
      refine bw_iadd dX5_gives_16 ?_
      refine bw_istore_n [(1, .int ((x1 + q_14.1))), (0, .ref ah), (2, .int x2)] dX5_gives_17 rfl (by decide) rfl ?_
      refine bw_iinc 2 (x2 + 1) [(2, .int ((x2 + 1))), (1, .int ((x1 + q_14.1))), (0, .ref ah)] dX5_gives_18 rfl rfl (by decide) rfl ?_
      refine bw_goto 4 dX5_gives_21 (by decide) ?_
      refine bw_lv [2, 1, 0] rfl ?_
      exact ih vh_historyLong q_14.2.1 q_14.2.2.1 vh_textLong vh_spot vh_read q_14.2.2.2.1 q_14.2.2.2.2.1 q_14.2.2.2.2.2 ((x1 + q_14.1)) ((x2 + 1)) _ hf
theorem ar_X5_gives : yX5_gives.cls ≠ "java/lang/invoke/MethodHandle" ∧ yX5_gives.cls ≠ "java/lang/invoke/VarHandle" ∧ (parseMethodDescriptor yX5_gives.desc).map (fun d => d.parameters.length) = some 0 := ⟨by decide, by decide, by decide +kernel⟩
def f_X5_gives (vh_groups : Int32) (vh_leftLong : Int32) (vh_all : Nat → Int32) (vh_words : Nat → Int32) (vh_left : Nat → Int32)  : Option (Int32 × (Int32) × (Int32) × (Nat → Int32) × (Nat → Int32) × (Nat → Int32)) := (f_X5_gives_L4 bw_F vh_groups vh_leftLong vh_all vh_words vh_left 0 0)
set_option maxHeartbeats 4000000 in
set_option maxRecDepth 100000 in
theorem s_X5_gives (l : Launch) (g : bwG) (ah ah_all ah_kept ah_history ah_slots ah_isSaved ah_words ah_left ah_seen ah_text ah_signs ah_pauses : Nat) (vh_historyLong : Int32) (vh_groups : Int32) (vh_leftLong : Int32) (vh_textLong : Int32) (vh_spot : Int32) (vh_read : Int32) (vh_all : Nat → Int32) (vh_words : Nat → Int32) (vh_left : Nat → Int32)  (res : Int32 × (Int32) × (Int32) × (Nat → Int32) × (Nat → Int32) × (Nat → Int32)) (hf : f_X5_gives vh_groups vh_leftLong vh_all vh_words vh_left  = some res) : bwS l g yX5_gives cX5_gives 3 (some .int) ({ frames := 6, cells := 0, slots := 0, locals := 134 } : Room) [.ref ah] ([(ah, .inr (5, [.ref ah_all, .ref ah_kept, .ref ah_history, .int vh_historyLong, .ref ah_slots, .ref ah_isSaved, .ref ah_words, .int vh_groups, .ref ah_left, .int vh_leftLong, .ref ah_seen, .ref ah_text, .int vh_textLong, .int vh_spot, .ref ah_signs, .ref ah_pauses, .int vh_read])), (ah_all, .inl (g.2.1, 120, .inl vh_all)), (ah_words, .inl (g.2.1, 24, .inl vh_words)), (ah_left, .inl (g.2.1, 24, .inl vh_left))]) (fun r w => r = some (.int res.1) ∧ w = [(ah, .inr (5, [.ref ah_all, .ref ah_kept, .ref ah_history, .int vh_historyLong, .ref ah_slots, .ref ah_isSaved, .ref ah_words, .int res.2.1, .ref ah_left, .int res.2.2.1, .ref ah_seen, .ref ah_text, .int vh_textLong, .int vh_spot, .ref ah_signs, .ref ah_pauses, .int vh_read])), (ah_all, .inl (g.2.1, 120, .inl res.2.2.2.1)), (ah_words, .inl (g.2.1, 24, .inl res.2.2.2.2.1)), (ah_left, .inl (g.2.1, 24, .inl res.2.2.2.2.2))]) := by
  refine bwS_of (by decide) (Nat.le_of_ble_eq_true rfl) ?_
  unfold f_X5_gives at hf
  show bwR l g cX5_gives 3 RX5 "gives" (some .int) ({ frames := 6, cells := 0, slots := 0, locals := 134 } : Room) bwT (bwZ g (fun r w => r = some (.int res.1) ∧ w = [(ah, .inr (5, [.ref ah_all, .ref ah_kept, .ref ah_history, .int vh_historyLong, .ref ah_slots, .ref ah_isSaved, .ref ah_words, .int res.2.1, .ref ah_left, .int res.2.2.1, .ref ah_seen, .ref ah_text, .int vh_textLong, .int vh_spot, .ref ah_signs, .ref ah_pauses, .int vh_read])), (ah_all, .inl (g.2.1, 120, .inl res.2.2.2.1)), (ah_words, .inl (g.2.1, 24, .inl res.2.2.2.2.1)), (ah_left, .inl (g.2.1, 24, .inl res.2.2.2.2.2))]) 0 0) 0 [(0, .ref ah)] [] ([(ah, .inr (5, [.ref ah_all, .ref ah_kept, .ref ah_history, .int vh_historyLong, .ref ah_slots, .ref ah_isSaved, .ref ah_words, .int vh_groups, .ref ah_left, .int vh_leftLong, .ref ah_seen, .ref ah_text, .int vh_textLong, .int vh_spot, .ref ah_signs, .ref ah_pauses, .int vh_read])), (ah_all, .inl (g.2.1, 120, .inl vh_all)), (ah_words, .inl (g.2.1, 24, .inl vh_words)), (ah_left, .inl (g.2.1, 24, .inl vh_left))]) 0 0
  refine bw_iconst 0 dX5_gives_0 (by decide) ?_
  refine bw_istore_n [(1, .int 0), (0, .ref ah)] dX5_gives_1 rfl (by decide) rfl ?_
  refine bw_iconst 0 dX5_gives_2 (by decide) ?_
  refine bw_istore_n [(2, .int 0), (1, .int 0), (0, .ref ah)] dX5_gives_3 rfl (by decide) rfl ?_
  refine bw_lv [2, 1, 0] rfl ?_
  exact s_X5_gives_L4 l g ah ah_all ah_kept ah_history ah_slots ah_isSaved ah_words ah_left ah_seen ah_text ah_signs ah_pauses bw_F vh_historyLong vh_groups vh_leftLong vh_textLong vh_spot vh_read vh_all vh_words vh_left 0 0 _ hf
theorem ar_X5_canGive : yX5_canGive.cls ≠ "java/lang/invoke/MethodHandle" ∧ yX5_canGive.cls ≠ "java/lang/invoke/VarHandle" ∧ (parseMethodDescriptor yX5_canGive.desc).map (fun d => d.parameters.length) = some 0 := ⟨by decide, by decide, by decide +kernel⟩
def f_X5_canGive (vh_groups : Int32) (vh_leftLong : Int32) (vh_all : Nat → Int32) (vh_words : Nat → Int32) (vh_left : Nat → Int32)  : Option (Int32 × (Int32) × (Int32) × (Nat → Int32) × (Nat → Int32)) := ((f_X5_sentences vh_groups vh_leftLong vh_all vh_words vh_left 0).bind fun q_3 => (if q_3.1 ≤ 0 then some (0, q_3.2.1, q_3.2.2.1, q_3.2.2.2.1, q_3.2.2.2.2) else some (1, q_3.2.1, q_3.2.2.1, q_3.2.2.2.1, q_3.2.2.2.2)))
set_option maxHeartbeats 4000000 in
set_option maxRecDepth 100000 in
theorem s_X5_canGive (l : Launch) (g : bwG) (ah ah_all ah_kept ah_history ah_slots ah_isSaved ah_words ah_left ah_seen ah_text ah_signs ah_pauses : Nat) (vh_historyLong : Int32) (vh_groups : Int32) (vh_leftLong : Int32) (vh_textLong : Int32) (vh_spot : Int32) (vh_read : Int32) (vh_all : Nat → Int32) (vh_words : Nat → Int32) (vh_left : Nat → Int32)  (res : Int32 × (Int32) × (Int32) × (Nat → Int32) × (Nat → Int32)) (hf : f_X5_canGive vh_groups vh_leftLong vh_all vh_words vh_left  = some res) : bwS l g yX5_canGive cX5_canGive 1 (some .boolean) ({ frames := 5, cells := 0, slots := 0, locals := 110 } : Room) [.ref ah] ([(ah, .inr (5, [.ref ah_all, .ref ah_kept, .ref ah_history, .int vh_historyLong, .ref ah_slots, .ref ah_isSaved, .ref ah_words, .int vh_groups, .ref ah_left, .int vh_leftLong, .ref ah_seen, .ref ah_text, .int vh_textLong, .int vh_spot, .ref ah_signs, .ref ah_pauses, .int vh_read])), (ah_all, .inl (g.2.1, 120, .inl vh_all)), (ah_words, .inl (g.2.1, 24, .inl vh_words)), (ah_left, .inl (g.2.1, 24, .inl vh_left))]) (fun r w => r = some (.int res.1) ∧ w = [(ah, .inr (5, [.ref ah_all, .ref ah_kept, .ref ah_history, .int vh_historyLong, .ref ah_slots, .ref ah_isSaved, .ref ah_words, .int res.2.1, .ref ah_left, .int res.2.2.1, .ref ah_seen, .ref ah_text, .int vh_textLong, .int vh_spot, .ref ah_signs, .ref ah_pauses, .int vh_read])), (ah_all, .inl (g.2.1, 120, .inl vh_all)), (ah_words, .inl (g.2.1, 24, .inl res.2.2.2.1)), (ah_left, .inl (g.2.1, 24, .inl res.2.2.2.2))]) := by
  refine bwS_of (by decide) (Nat.le_of_ble_eq_true rfl) ?_
  unfold f_X5_canGive at hf
  show bwR l g cX5_canGive 1 RX5 "canGive" (some .boolean) ({ frames := 5, cells := 0, slots := 0, locals := 110 } : Room) bwT (bwZ g (fun r w => r = some (.int res.1) ∧ w = [(ah, .inr (5, [.ref ah_all, .ref ah_kept, .ref ah_history, .int vh_historyLong, .ref ah_slots, .ref ah_isSaved, .ref ah_words, .int res.2.1, .ref ah_left, .int res.2.2.1, .ref ah_seen, .ref ah_text, .int vh_textLong, .int vh_spot, .ref ah_signs, .ref ah_pauses, .int vh_read])), (ah_all, .inl (g.2.1, 120, .inl vh_all)), (ah_words, .inl (g.2.1, 24, .inl res.2.2.2.1)), (ah_left, .inl (g.2.1, 24, .inl res.2.2.2.2))]) 0 0) 0 [(0, .ref ah)] [] ([(ah, .inr (5, [.ref ah_all, .ref ah_kept, .ref ah_history, .int vh_historyLong, .ref ah_slots, .ref ah_isSaved, .ref ah_words, .int vh_groups, .ref ah_left, .int vh_leftLong, .ref ah_seen, .ref ah_text, .int vh_textLong, .int vh_spot, .ref ah_signs, .ref ah_pauses, .int vh_read])), (ah_all, .inl (g.2.1, 120, .inl vh_all)), (ah_words, .inl (g.2.1, 24, .inl vh_words)), (ah_left, .inl (g.2.1, 24, .inl vh_left))]) 0 0
  refine bw_aload_n 0 dX5_canGive_0 rfl rfl ?_
  refine bw_iconst 0 dX5_canGive_1 (by decide) ?_
  obtain ⟨q_3, hc_3, hf⟩ := bw_bind hf
  refine bw_callV [.int 0] [] [] 0 5 (s_X5_sentences l g ah ah_all ah_kept ah_history ah_slots ah_isSaved ah_words ah_left ah_seen ah_text ah_signs ah_pauses vh_historyLong vh_groups vh_leftLong vh_textLong vh_spot vh_read vh_all vh_words vh_left 0 _ hc_3) rfl co_X5_sentences ini_X5 ml_X5_102 im_X5_sentences se_X5_sentences ar_X5_sentences ⟨Nat.le_of_ble_eq_true rfl, Nat.le_of_ble_eq_true rfl⟩ ⟨Nat.le_of_ble_eq_true rfl, Nat.le_of_ble_eq_true rfl⟩ rfl rfl (bw_pick1 4 [0, 1, 2, 3] rfl rfl (by decide)) (Nat.le_of_ble_eq_true rfl) dX5_canGive_2 (fun r w1 hq => ?_)
  obtain ⟨rfl, rfl⟩ := hq
  refine bw_perm (ws1 := [(ah, .inr (5, [.ref ah_all, .ref ah_kept, .ref ah_history, .int vh_historyLong, .ref ah_slots, .ref ah_isSaved, .ref ah_words, .int q_3.2.1, .ref ah_left, .int q_3.2.2.1, .ref ah_seen, .ref ah_text, .int vh_textLong, .int vh_spot, .ref ah_signs, .ref ah_pauses, .int vh_read])), (ah_all, .inl (g.2.1, 120, .inl vh_all)), (ah_words, .inl (g.2.1, 24, .inl q_3.2.2.2.1)), (ah_left, .inl (g.2.1, 24, .inl q_3.2.2.2.2))]) (bw_pick1 4 [0, 1, 2, 3] rfl rfl (by decide)) ?_
  refine bw_st (st1 := [.int q_3.1]) rfl ?_
  refine bw_if_le 12 dX5_canGive_5 (by decide) (fun c_4 => ?_) (fun c_4 => ?_)
  · have hf := bw_pos c_4 hf
    refine bw_iconst 0 dX5_canGive_12 (by decide) ?_
    cases Option.some.inj hf
    exact bw_ret rfl rfl (Nat.le_of_ble_eq_true rfl) (Nat.le_of_ble_eq_true rfl) dX5_canGive_13 ⟨rfl, rfl⟩
  · have hf := bw_neg c_4 hf
    refine bw_iconst 1 dX5_canGive_8 (by decide) ?_
    refine bw_goto 13 dX5_canGive_9 (by decide) ?_
    cases Option.some.inj hf
    exact bw_ret rfl rfl (Nat.le_of_ble_eq_true rfl) (Nat.le_of_ble_eq_true rfl) dX5_canGive_13 ⟨rfl, rfl⟩
theorem ar_X5_isSetting : yX5_isSetting.cls ≠ "java/lang/invoke/MethodHandle" ∧ yX5_isSetting.cls ≠ "java/lang/invoke/VarHandle" ∧ (parseMethodDescriptor yX5_isSetting.desc).map (fun d => d.parameters.length) = some 2 := ⟨by decide, by decide, by decide +kernel⟩
def f_X5_isSetting  (p0 : Int32) (p1 : Int32) : Option (Int32) := (if p0 = 0 then ((f_X5_in (((p1 : Int32).toInt64)) 2 9).bind fun q_11 => (if bw_nb q_11 then some q_11 else none)) else (if p0 = 1 then ((f_X5_in (((p1 : Int32).toInt64)) 1 9).bind fun q_14 => (if bw_nb q_14 then some q_14 else none)) else (if p0 = 2 then ((f_X5_in (((p1 : Int32).toInt64)) 1 9).bind fun q_17 => (if bw_nb q_17 then some q_17 else none)) else some 0)))
set_option maxHeartbeats 4000000 in
set_option maxRecDepth 100000 in
theorem s_X5_isSetting (l : Launch) (g : bwG)   (p0 : Int32) (p1 : Int32) (res : Int32) (hf : f_X5_isSetting  p0 p1 = some res) : bwS l g yX5_isSetting cX5_isSetting 2 (some .boolean) ({ frames := 1, cells := 0, slots := 0, locals := 25 } : Room) [.int p0, .int p1] ([]) (fun r w => r = some (.int res) ∧ w = []) := by
  refine bwS_of (by decide) (Nat.le_of_ble_eq_true rfl) ?_
  unfold f_X5_isSetting at hf
  show bwR l g cX5_isSetting 2 RX5 "isSetting" (some .boolean) ({ frames := 1, cells := 0, slots := 0, locals := 25 } : Room) bwT (bwZ g (fun r w => r = some (.int res) ∧ w = []) 0 0) 0 [(0, .int p0), (1, .int p1)] [] ([]) 0 0
  refine bw_iload_n 0 dX5_isSetting_0 rfl rfl ?_
  rcases Decidable.em (p0 = 0) with c_10 | c_10
  · have hf := bw_pos c_10 hf
    refine bw_tableIn (off := 27) 28 dX5_isSetting_1 (by rw [c_10]; decide) (by rw [c_10]; decide) (by rw [c_10]; rfl) (by decide) ?_
    refine bw_iload_n 1 dX5_isSetting_28 rfl rfl ?_
    refine bw_i2l dX5_isSetting_29 ?_
    refine bw_ldc2 ct_X5_47 dX5_isSetting_30 ?_
    refine bw_ldc2 ct_X5_116 dX5_isSetting_33 ?_
    obtain ⟨q_11, hc_11, hf⟩ := bw_bind hf
    refine bw_callS [.long (((p1 : Int32).toInt64)), .long 2, .long 9] [] [] (s_X5_in l g   (((p1 : Int32).toInt64)) 2 9 _ hc_11) rfl co_X5_in ini_X5 ml_X5_49 st_X5_in ar_X5_in ⟨Nat.le_of_ble_eq_true rfl, Nat.le_of_ble_eq_true rfl⟩ ⟨Nat.le_of_ble_eq_true rfl, Nat.le_of_ble_eq_true rfl⟩ (bw_pick1 0 [] rfl rfl (by decide)) (Nat.le_of_ble_eq_true rfl) dX5_isSetting_36 (fun r w1 hq => ?_)
    obtain ⟨rfl, rfl⟩ := hq
    refine bw_perm (ws1 := []) (bw_pick1 0 [] rfl rfl (by decide)) ?_
    refine bw_st (st1 := [.int q_11]) rfl ?_
    obtain ⟨h_12, hf⟩ := bw_chk hf
    cases Option.some.inj hf
    exact bw_ret rfl (bw_nbp h_12) (Nat.le_of_ble_eq_true rfl) (Nat.le_of_ble_eq_true rfl) dX5_isSetting_39 ⟨rfl, rfl⟩
  · have hf := bw_neg c_10 hf
    rcases Decidable.em (p0 = 1) with c_13 | c_13
    · have hf := bw_pos c_13 hf
      refine bw_tableIn (off := 39) 40 dX5_isSetting_1 (by rw [c_13]; decide) (by rw [c_13]; decide) (by rw [c_13]; rfl) (by decide) ?_
      refine bw_iload_n 1 dX5_isSetting_40 rfl rfl ?_
      refine bw_i2l dX5_isSetting_41 ?_
      refine bw_lconst 1 dX5_isSetting_42 (by decide) ?_
      refine bw_ldc2 ct_X5_116 dX5_isSetting_43 ?_
      obtain ⟨q_14, hc_14, hf⟩ := bw_bind hf
      refine bw_callS [.long (((p1 : Int32).toInt64)), .long 1, .long 9] [] [] (s_X5_in l g   (((p1 : Int32).toInt64)) 1 9 _ hc_14) rfl co_X5_in ini_X5 ml_X5_49 st_X5_in ar_X5_in ⟨Nat.le_of_ble_eq_true rfl, Nat.le_of_ble_eq_true rfl⟩ ⟨Nat.le_of_ble_eq_true rfl, Nat.le_of_ble_eq_true rfl⟩ (bw_pick1 0 [] rfl rfl (by decide)) (Nat.le_of_ble_eq_true rfl) dX5_isSetting_46 (fun r w1 hq => ?_)
      obtain ⟨rfl, rfl⟩ := hq
      refine bw_perm (ws1 := []) (bw_pick1 0 [] rfl rfl (by decide)) ?_
      refine bw_st (st1 := [.int q_14]) rfl ?_
      obtain ⟨h_15, hf⟩ := bw_chk hf
      cases Option.some.inj hf
      exact bw_ret rfl (bw_nbp h_15) (Nat.le_of_ble_eq_true rfl) (Nat.le_of_ble_eq_true rfl) dX5_isSetting_49 ⟨rfl, rfl⟩
    · have hf := bw_neg c_13 hf
      rcases Decidable.em (p0 = 2) with c_16 | c_16
      · have hf := bw_pos c_16 hf
        refine bw_tableIn (off := 39) 40 dX5_isSetting_1 (by rw [c_16]; decide) (by rw [c_16]; decide) (by rw [c_16]; rfl) (by decide) ?_
        refine bw_iload_n 1 dX5_isSetting_40 rfl rfl ?_
        refine bw_i2l dX5_isSetting_41 ?_
        refine bw_lconst 1 dX5_isSetting_42 (by decide) ?_
        refine bw_ldc2 ct_X5_116 dX5_isSetting_43 ?_
        obtain ⟨q_17, hc_17, hf⟩ := bw_bind hf
        refine bw_callS [.long (((p1 : Int32).toInt64)), .long 1, .long 9] [] [] (s_X5_in l g   (((p1 : Int32).toInt64)) 1 9 _ hc_17) rfl co_X5_in ini_X5 ml_X5_49 st_X5_in ar_X5_in ⟨Nat.le_of_ble_eq_true rfl, Nat.le_of_ble_eq_true rfl⟩ ⟨Nat.le_of_ble_eq_true rfl, Nat.le_of_ble_eq_true rfl⟩ (bw_pick1 0 [] rfl rfl (by decide)) (Nat.le_of_ble_eq_true rfl) dX5_isSetting_46 (fun r w1 hq => ?_)
        obtain ⟨rfl, rfl⟩ := hq
        refine bw_perm (ws1 := []) (bw_pick1 0 [] rfl rfl (by decide)) ?_
        refine bw_st (st1 := [.int q_17]) rfl ?_
        obtain ⟨h_18, hf⟩ := bw_chk hf
        cases Option.some.inj hf
        exact bw_ret rfl (bw_nbp h_18) (Nat.le_of_ble_eq_true rfl) (Nat.le_of_ble_eq_true rfl) dX5_isSetting_49 ⟨rfl, rfl⟩
      · have hf := bw_neg c_16 hf
        refine bw_tableOut 50 dX5_isSetting_1 (bw_out3_0 c_10 c_13 c_16) (by decide) ?_
        refine bw_iconst 0 dX5_isSetting_50 (by decide) ?_
        cases Option.some.inj hf
        exact bw_ret rfl rfl (Nat.le_of_ble_eq_true rfl) (Nat.le_of_ble_eq_true rfl) dX5_isSetting_51 ⟨rfl, rfl⟩
theorem ar_X5_set : yX5_set.cls ≠ "java/lang/invoke/MethodHandle" ∧ yX5_set.cls ≠ "java/lang/invoke/VarHandle" ∧ (parseMethodDescriptor yX5_set.desc).map (fun d => d.parameters.length) = some 2 := ⟨by decide, by decide, by decide +kernel⟩
def f_X5_set (vh_historyLong : Int32) (vh_all : Nat → Int32) (vh_history : Nat → Int32) (p0 : Int32) (p1 : Int32) : Option (Int32 × (Int32) × (Nat → Int32) × (Nat → Int32)) := ((f_X5_isSetting p0 p1).bind fun q_6 => (if q_6 = 0 then some ((-1000002), vh_historyLong, vh_all, vh_history) else ((f_X5_changes vh_historyLong vh_all vh_history).bind fun q_8 => (if bw_in p0 120 then (if bw_in p0 120 then some ((vh_all (Int32.toNatClampNeg p0)), q_8.1, (upd vh_all (Int32.toNatClampNeg p0) p1), q_8.2) else none) else none))))
set_option maxHeartbeats 4000000 in
set_option maxRecDepth 100000 in
theorem s_X5_set (l : Launch) (g : bwG) (ah ah_all ah_kept ah_history ah_slots ah_isSaved ah_words ah_left ah_seen ah_text ah_signs ah_pauses : Nat) (vh_historyLong : Int32) (vh_groups : Int32) (vh_leftLong : Int32) (vh_textLong : Int32) (vh_spot : Int32) (vh_read : Int32) (vh_all : Nat → Int32) (vh_history : Nat → Int32) (p0 : Int32) (p1 : Int32) (res : Int32 × (Int32) × (Nat → Int32) × (Nat → Int32)) (hf : f_X5_set vh_historyLong vh_all vh_history p0 p1 = some res) : bwS l g yX5_set cX5_set 4 (some .int) ({ frames := 2, cells := 0, slots := 0, locals := 46 } : Room) [.ref ah, .int p0, .int p1] ([(ah, .inr (5, [.ref ah_all, .ref ah_kept, .ref ah_history, .int vh_historyLong, .ref ah_slots, .ref ah_isSaved, .ref ah_words, .int vh_groups, .ref ah_left, .int vh_leftLong, .ref ah_seen, .ref ah_text, .int vh_textLong, .int vh_spot, .ref ah_signs, .ref ah_pauses, .int vh_read])), (ah_all, .inl (g.2.1, 120, .inl vh_all)), (ah_history, .inl (g.2.1, 720, .inl vh_history))]) (fun r w => r = some (.int res.1) ∧ w = [(ah, .inr (5, [.ref ah_all, .ref ah_kept, .ref ah_history, .int res.2.1, .ref ah_slots, .ref ah_isSaved, .ref ah_words, .int vh_groups, .ref ah_left, .int vh_leftLong, .ref ah_seen, .ref ah_text, .int vh_textLong, .int vh_spot, .ref ah_signs, .ref ah_pauses, .int vh_read])), (ah_all, .inl (g.2.1, 120, .inl res.2.2.1)), (ah_history, .inl (g.2.1, 720, .inl res.2.2.2))]) := by
  refine bwS_of (by decide) (Nat.le_of_ble_eq_true rfl) ?_
  unfold f_X5_set at hf
  show bwR l g cX5_set 4 RX5 "set" (some .int) ({ frames := 2, cells := 0, slots := 0, locals := 46 } : Room) bwT (bwZ g (fun r w => r = some (.int res.1) ∧ w = [(ah, .inr (5, [.ref ah_all, .ref ah_kept, .ref ah_history, .int res.2.1, .ref ah_slots, .ref ah_isSaved, .ref ah_words, .int vh_groups, .ref ah_left, .int vh_leftLong, .ref ah_seen, .ref ah_text, .int vh_textLong, .int vh_spot, .ref ah_signs, .ref ah_pauses, .int vh_read])), (ah_all, .inl (g.2.1, 120, .inl res.2.2.1)), (ah_history, .inl (g.2.1, 720, .inl res.2.2.2))]) 0 0) 0 [(0, .ref ah), (1, .int p0), (2, .int p1)] [] ([(ah, .inr (5, [.ref ah_all, .ref ah_kept, .ref ah_history, .int vh_historyLong, .ref ah_slots, .ref ah_isSaved, .ref ah_words, .int vh_groups, .ref ah_left, .int vh_leftLong, .ref ah_seen, .ref ah_text, .int vh_textLong, .int vh_spot, .ref ah_signs, .ref ah_pauses, .int vh_read])), (ah_all, .inl (g.2.1, 120, .inl vh_all)), (ah_history, .inl (g.2.1, 720, .inl vh_history))]) 0 0
  refine bw_iload_n 1 dX5_set_0 rfl rfl ?_
  refine bw_iload_n 2 dX5_set_1 rfl rfl ?_
  obtain ⟨q_6, hc_6, hf⟩ := bw_bind hf
  refine bw_callS [.int p0, .int p1] [] [(ah, .inr (5, [.ref ah_all, .ref ah_kept, .ref ah_history, .int vh_historyLong, .ref ah_slots, .ref ah_isSaved, .ref ah_words, .int vh_groups, .ref ah_left, .int vh_leftLong, .ref ah_seen, .ref ah_text, .int vh_textLong, .int vh_spot, .ref ah_signs, .ref ah_pauses, .int vh_read])), (ah_all, .inl (g.2.1, 120, .inl vh_all)), (ah_history, .inl (g.2.1, 720, .inl vh_history))] (s_X5_isSetting l g   p0 p1 _ hc_6) rfl co_X5_isSetting ini_X5 ml_X5_118 st_X5_isSetting ar_X5_isSetting ⟨Nat.le_of_ble_eq_true rfl, Nat.le_of_ble_eq_true rfl⟩ ⟨Nat.le_of_ble_eq_true rfl, Nat.le_of_ble_eq_true rfl⟩ (bw_pick1 3 [0, 1, 2] rfl rfl (by decide)) (Nat.le_of_ble_eq_true rfl) dX5_set_2 (fun r w1 hq => ?_)
  obtain ⟨rfl, rfl⟩ := hq
  refine bw_perm (ws1 := [(ah, .inr (5, [.ref ah_all, .ref ah_kept, .ref ah_history, .int vh_historyLong, .ref ah_slots, .ref ah_isSaved, .ref ah_words, .int vh_groups, .ref ah_left, .int vh_leftLong, .ref ah_seen, .ref ah_text, .int vh_textLong, .int vh_spot, .ref ah_signs, .ref ah_pauses, .int vh_read])), (ah_all, .inl (g.2.1, 120, .inl vh_all)), (ah_history, .inl (g.2.1, 720, .inl vh_history))]) (bw_pick1 3 [0, 1, 2] rfl rfl (by decide)) ?_
  refine bw_st (st1 := [.int q_6]) rfl ?_
  refine bw_if_ne 11 dX5_set_5 (by decide) (fun c_7 => ?_) (fun c_7 => ?_)
  · have hf := bw_neg c_7 hf
    refine bw_aload_n 0 dX5_set_11 rfl rfl ?_
    obtain ⟨q_8, hc_8, hf⟩ := bw_bind hf
    refine bw_callV [] [] [] 0 5 (s_X5_changes l g ah ah_all ah_kept ah_history ah_slots ah_isSaved ah_words ah_left ah_seen ah_text ah_signs ah_pauses vh_historyLong vh_groups vh_leftLong vh_textLong vh_spot vh_read vh_all vh_history  _ hc_8) rfl co_X5_changes ini_X5 ml_X5_122 im_X5_changes se_X5_changes ar_X5_changes ⟨Nat.le_of_ble_eq_true rfl, Nat.le_of_ble_eq_true rfl⟩ ⟨Nat.le_of_ble_eq_true rfl, Nat.le_of_ble_eq_true rfl⟩ rfl rfl (bw_pick1 3 [0, 1, 2] rfl rfl (by decide)) (Nat.le_of_ble_eq_true rfl) dX5_set_12 (fun r w1 hq => ?_)
    obtain ⟨rfl, rfl⟩ := hq
    refine bw_perm (ws1 := [(ah, .inr (5, [.ref ah_all, .ref ah_kept, .ref ah_history, .int q_8.1, .ref ah_slots, .ref ah_isSaved, .ref ah_words, .int vh_groups, .ref ah_left, .int vh_leftLong, .ref ah_seen, .ref ah_text, .int vh_textLong, .int vh_spot, .ref ah_signs, .ref ah_pauses, .int vh_read])), (ah_all, .inl (g.2.1, 120, .inl vh_all)), (ah_history, .inl (g.2.1, 720, .inl q_8.2))]) (bw_pick1 3 [0, 1, 2] rfl rfl (by decide)) ?_
    refine bw_st (st1 := []) rfl ?_
    refine bw_aload_n 0 dX5_set_15 rfl rfl ?_
    refine bw_gf bkX5 0 0 (by decide) fl_X5_7 rfl rfl dX5_set_16 ?_
    refine bw_iload_n 1 dX5_set_19 rfl rfl ?_
    obtain ⟨h_9, hf⟩ := bw_chk hf
    refine bw_iald 1 rfl h_9 dX5_set_20 ?_
    refine bw_istore_n [(3, .int ((vh_all (Int32.toNatClampNeg p0)))), (0, .ref ah), (1, .int p0), (2, .int p1)] dX5_set_21 rfl (by decide) rfl ?_
    refine bw_aload_n 1 dX5_set_22 rfl rfl ?_
    refine bw_gf bkX5 0 0 (by decide) fl_X5_7 rfl rfl dX5_set_23 ?_
    refine bw_iload_n 2 dX5_set_26 rfl rfl ?_
    refine bw_iload_n 3 dX5_set_27 rfl rfl ?_
    obtain ⟨h_10, hf⟩ := bw_chk hf
    refine bw_iast 1 ([(ah, .inr (5, [.ref ah_all, .ref ah_kept, .ref ah_history, .int q_8.1, .ref ah_slots, .ref ah_isSaved, .ref ah_words, .int vh_groups, .ref ah_left, .int vh_leftLong, .ref ah_seen, .ref ah_text, .int vh_textLong, .int vh_spot, .ref ah_signs, .ref ah_pauses, .int vh_read])), (ah_all, .inl (g.2.1, 120, .inl ((upd vh_all (Int32.toNatClampNeg p0) p1)))), (ah_history, .inl (g.2.1, 720, .inl q_8.2))]) rfl h_10 rfl dX5_set_28 ?_
    refine bw_iload_n 0 dX5_set_29 rfl rfl ?_
    cases Option.some.inj hf
    exact bw_ret rfl rfl (Nat.le_of_ble_eq_true rfl) (Nat.le_of_ble_eq_true rfl) dX5_set_30 ⟨rfl, rfl⟩
  · have hf := bw_pos c_7 hf
    refine bw_ldc ct_X5_121 dX5_set_8 ?_
    cases Option.some.inj hf
    exact bw_ret rfl rfl (Nat.le_of_ble_eq_true rfl) (Nat.le_of_ble_eq_true rfl) dX5_set_10 ⟨rfl, rfl⟩
theorem ar_X5_eyes : yX5_eyes.cls ≠ "java/lang/invoke/MethodHandle" ∧ yX5_eyes.cls ≠ "java/lang/invoke/VarHandle" ∧ (parseMethodDescriptor yX5_eyes.desc).map (fun d => d.parameters.length) = some 2 := ⟨by decide, by decide, by decide +kernel⟩
def f_X5_eyes (vh_historyLong : Int32) (vh_all : Nat → Int32) (vh_history : Nat → Int32) (p0 : Int32) (p1 : Int32) : Option (Int32 × (Int32) × (Nat → Int32) × (Nat → Int32)) := ((f_X5_isCourtier p0).bind fun q_8 => (if q_8 = 0 then some ((-1000001), vh_historyLong, vh_all, vh_history) else ((f_X5_areEyes p1).bind fun q_10 => (if q_10 = 0 then some ((-1000002), vh_historyLong, vh_all, vh_history) else ((f_X5_changes vh_historyLong vh_all vh_history).bind fun q_12 => (if bw_in ((6 + p0)) 120 then (if bw_in ((6 + p0)) 120 then some ((vh_all (Int32.toNatClampNeg ((6 + p0)))), q_12.1, (upd vh_all (Int32.toNatClampNeg ((6 + p0))) p1), q_12.2) else none) else none))))))
set_option maxHeartbeats 4000000 in
set_option maxRecDepth 100000 in
theorem s_X5_eyes (l : Launch) (g : bwG) (ah ah_all ah_kept ah_history ah_slots ah_isSaved ah_words ah_left ah_seen ah_text ah_signs ah_pauses : Nat) (vh_historyLong : Int32) (vh_groups : Int32) (vh_leftLong : Int32) (vh_textLong : Int32) (vh_spot : Int32) (vh_read : Int32) (vh_all : Nat → Int32) (vh_history : Nat → Int32) (p0 : Int32) (p1 : Int32) (res : Int32 × (Int32) × (Nat → Int32) × (Nat → Int32)) (hf : f_X5_eyes vh_historyLong vh_all vh_history p0 p1 = some res) : bwS l g yX5_eyes cX5_eyes 4 (some .int) ({ frames := 2, cells := 0, slots := 0, locals := 45 } : Room) [.ref ah, .int p0, .int p1] ([(ah, .inr (5, [.ref ah_all, .ref ah_kept, .ref ah_history, .int vh_historyLong, .ref ah_slots, .ref ah_isSaved, .ref ah_words, .int vh_groups, .ref ah_left, .int vh_leftLong, .ref ah_seen, .ref ah_text, .int vh_textLong, .int vh_spot, .ref ah_signs, .ref ah_pauses, .int vh_read])), (ah_all, .inl (g.2.1, 120, .inl vh_all)), (ah_history, .inl (g.2.1, 720, .inl vh_history))]) (fun r w => r = some (.int res.1) ∧ w = [(ah, .inr (5, [.ref ah_all, .ref ah_kept, .ref ah_history, .int res.2.1, .ref ah_slots, .ref ah_isSaved, .ref ah_words, .int vh_groups, .ref ah_left, .int vh_leftLong, .ref ah_seen, .ref ah_text, .int vh_textLong, .int vh_spot, .ref ah_signs, .ref ah_pauses, .int vh_read])), (ah_all, .inl (g.2.1, 120, .inl res.2.2.1)), (ah_history, .inl (g.2.1, 720, .inl res.2.2.2))]) := by
  refine bwS_of (by decide) (Nat.le_of_ble_eq_true rfl) ?_
  unfold f_X5_eyes at hf
  show bwR l g cX5_eyes 4 RX5 "eyes" (some .int) ({ frames := 2, cells := 0, slots := 0, locals := 45 } : Room) bwT (bwZ g (fun r w => r = some (.int res.1) ∧ w = [(ah, .inr (5, [.ref ah_all, .ref ah_kept, .ref ah_history, .int res.2.1, .ref ah_slots, .ref ah_isSaved, .ref ah_words, .int vh_groups, .ref ah_left, .int vh_leftLong, .ref ah_seen, .ref ah_text, .int vh_textLong, .int vh_spot, .ref ah_signs, .ref ah_pauses, .int vh_read])), (ah_all, .inl (g.2.1, 120, .inl res.2.2.1)), (ah_history, .inl (g.2.1, 720, .inl res.2.2.2))]) 0 0) 0 [(0, .ref ah), (1, .int p0), (2, .int p1)] [] ([(ah, .inr (5, [.ref ah_all, .ref ah_kept, .ref ah_history, .int vh_historyLong, .ref ah_slots, .ref ah_isSaved, .ref ah_words, .int vh_groups, .ref ah_left, .int vh_leftLong, .ref ah_seen, .ref ah_text, .int vh_textLong, .int vh_spot, .ref ah_signs, .ref ah_pauses, .int vh_read])), (ah_all, .inl (g.2.1, 120, .inl vh_all)), (ah_history, .inl (g.2.1, 720, .inl vh_history))]) 0 0
  refine bw_iload_n 1 dX5_eyes_0 rfl rfl ?_
  obtain ⟨q_8, hc_8, hf⟩ := bw_bind hf
  refine bw_callS [.int p0] [] [(ah, .inr (5, [.ref ah_all, .ref ah_kept, .ref ah_history, .int vh_historyLong, .ref ah_slots, .ref ah_isSaved, .ref ah_words, .int vh_groups, .ref ah_left, .int vh_leftLong, .ref ah_seen, .ref ah_text, .int vh_textLong, .int vh_spot, .ref ah_signs, .ref ah_pauses, .int vh_read])), (ah_all, .inl (g.2.1, 120, .inl vh_all)), (ah_history, .inl (g.2.1, 720, .inl vh_history))] (s_X5_isCourtier l g   p0 _ hc_8) rfl co_X5_isCourtier ini_X5 ml_X5_78 st_X5_isCourtier ar_X5_isCourtier ⟨Nat.le_of_ble_eq_true rfl, Nat.le_of_ble_eq_true rfl⟩ ⟨Nat.le_of_ble_eq_true rfl, Nat.le_of_ble_eq_true rfl⟩ (bw_pick1 3 [0, 1, 2] rfl rfl (by decide)) (Nat.le_of_ble_eq_true rfl) dX5_eyes_1 (fun r w1 hq => ?_)
  obtain ⟨rfl, rfl⟩ := hq
  refine bw_perm (ws1 := [(ah, .inr (5, [.ref ah_all, .ref ah_kept, .ref ah_history, .int vh_historyLong, .ref ah_slots, .ref ah_isSaved, .ref ah_words, .int vh_groups, .ref ah_left, .int vh_leftLong, .ref ah_seen, .ref ah_text, .int vh_textLong, .int vh_spot, .ref ah_signs, .ref ah_pauses, .int vh_read])), (ah_all, .inl (g.2.1, 120, .inl vh_all)), (ah_history, .inl (g.2.1, 720, .inl vh_history))]) (bw_pick1 3 [0, 1, 2] rfl rfl (by decide)) ?_
  refine bw_st (st1 := [.int q_8]) rfl ?_
  refine bw_if_ne 10 dX5_eyes_4 (by decide) (fun c_9 => ?_) (fun c_9 => ?_)
  · have hf := bw_neg c_9 hf
    refine bw_iload_n 2 dX5_eyes_10 rfl rfl ?_
    obtain ⟨q_10, hc_10, hf⟩ := bw_bind hf
    refine bw_callS [.int p1] [] [(ah, .inr (5, [.ref ah_all, .ref ah_kept, .ref ah_history, .int vh_historyLong, .ref ah_slots, .ref ah_isSaved, .ref ah_words, .int vh_groups, .ref ah_left, .int vh_leftLong, .ref ah_seen, .ref ah_text, .int vh_textLong, .int vh_spot, .ref ah_signs, .ref ah_pauses, .int vh_read])), (ah_all, .inl (g.2.1, 120, .inl vh_all)), (ah_history, .inl (g.2.1, 720, .inl vh_history))] (s_X5_areEyes l g   p1 _ hc_10) rfl co_X5_areEyes ini_X5 ml_X5_126 st_X5_areEyes ar_X5_areEyes ⟨Nat.le_of_ble_eq_true rfl, Nat.le_of_ble_eq_true rfl⟩ ⟨Nat.le_of_ble_eq_true rfl, Nat.le_of_ble_eq_true rfl⟩ (bw_pick1 3 [0, 1, 2] rfl rfl (by decide)) (Nat.le_of_ble_eq_true rfl) dX5_eyes_11 (fun r w1 hq => ?_)
    obtain ⟨rfl, rfl⟩ := hq
    refine bw_perm (ws1 := [(ah, .inr (5, [.ref ah_all, .ref ah_kept, .ref ah_history, .int vh_historyLong, .ref ah_slots, .ref ah_isSaved, .ref ah_words, .int vh_groups, .ref ah_left, .int vh_leftLong, .ref ah_seen, .ref ah_text, .int vh_textLong, .int vh_spot, .ref ah_signs, .ref ah_pauses, .int vh_read])), (ah_all, .inl (g.2.1, 120, .inl vh_all)), (ah_history, .inl (g.2.1, 720, .inl vh_history))]) (bw_pick1 3 [0, 1, 2] rfl rfl (by decide)) ?_
    refine bw_st (st1 := [.int q_10]) rfl ?_
    refine bw_if_ne 20 dX5_eyes_14 (by decide) (fun c_11 => ?_) (fun c_11 => ?_)
    · have hf := bw_neg c_11 hf
      refine bw_aload_n 0 dX5_eyes_20 rfl rfl ?_
      obtain ⟨q_12, hc_12, hf⟩ := bw_bind hf
      refine bw_callV [] [] [] 0 5 (s_X5_changes l g ah ah_all ah_kept ah_history ah_slots ah_isSaved ah_words ah_left ah_seen ah_text ah_signs ah_pauses vh_historyLong vh_groups vh_leftLong vh_textLong vh_spot vh_read vh_all vh_history  _ hc_12) rfl co_X5_changes ini_X5 ml_X5_122 im_X5_changes se_X5_changes ar_X5_changes ⟨Nat.le_of_ble_eq_true rfl, Nat.le_of_ble_eq_true rfl⟩ ⟨Nat.le_of_ble_eq_true rfl, Nat.le_of_ble_eq_true rfl⟩ rfl rfl (bw_pick1 3 [0, 1, 2] rfl rfl (by decide)) (Nat.le_of_ble_eq_true rfl) dX5_eyes_21 (fun r w1 hq => ?_)
      obtain ⟨rfl, rfl⟩ := hq
      refine bw_perm (ws1 := [(ah, .inr (5, [.ref ah_all, .ref ah_kept, .ref ah_history, .int q_12.1, .ref ah_slots, .ref ah_isSaved, .ref ah_words, .int vh_groups, .ref ah_left, .int vh_leftLong, .ref ah_seen, .ref ah_text, .int vh_textLong, .int vh_spot, .ref ah_signs, .ref ah_pauses, .int vh_read])), (ah_all, .inl (g.2.1, 120, .inl vh_all)), (ah_history, .inl (g.2.1, 720, .inl q_12.2))]) (bw_pick1 3 [0, 1, 2] rfl rfl (by decide)) ?_
      refine bw_st (st1 := []) rfl ?_
      refine bw_aload_n 0 dX5_eyes_24 rfl rfl ?_
      refine bw_gf bkX5 0 0 (by decide) fl_X5_7 rfl rfl dX5_eyes_25 ?_
      refine bw_bipush 6 dX5_eyes_28 (by decide) ?_
      refine bw_iload_n 1 dX5_eyes_30 rfl rfl ?_
      refine bw_iadd dX5_eyes_31 ?_
      obtain ⟨h_13, hf⟩ := bw_chk hf
      refine bw_iald 1 rfl h_13 dX5_eyes_32 ?_
      refine bw_istore_n [(3, .int ((vh_all (Int32.toNatClampNeg ((6 + p0)))))), (0, .ref ah), (1, .int p0), (2, .int p1)] dX5_eyes_33 rfl (by decide) rfl ?_
      refine bw_aload_n 1 dX5_eyes_34 rfl rfl ?_
      refine bw_gf bkX5 0 0 (by decide) fl_X5_7 rfl rfl dX5_eyes_35 ?_
      refine bw_bipush 6 dX5_eyes_38 (by decide) ?_
      refine bw_iload_n 2 dX5_eyes_40 rfl rfl ?_
      refine bw_iadd dX5_eyes_41 ?_
      refine bw_iload_n 3 dX5_eyes_42 rfl rfl ?_
      obtain ⟨h_14, hf⟩ := bw_chk hf
      refine bw_iast 1 ([(ah, .inr (5, [.ref ah_all, .ref ah_kept, .ref ah_history, .int q_12.1, .ref ah_slots, .ref ah_isSaved, .ref ah_words, .int vh_groups, .ref ah_left, .int vh_leftLong, .ref ah_seen, .ref ah_text, .int vh_textLong, .int vh_spot, .ref ah_signs, .ref ah_pauses, .int vh_read])), (ah_all, .inl (g.2.1, 120, .inl ((upd vh_all (Int32.toNatClampNeg ((6 + p0))) p1)))), (ah_history, .inl (g.2.1, 720, .inl q_12.2))]) rfl h_14 rfl dX5_eyes_43 ?_
      refine bw_iload_n 0 dX5_eyes_44 rfl rfl ?_
      cases Option.some.inj hf
      exact bw_ret rfl rfl (Nat.le_of_ble_eq_true rfl) (Nat.le_of_ble_eq_true rfl) dX5_eyes_45 ⟨rfl, rfl⟩
    · have hf := bw_pos c_11 hf
      refine bw_ldc ct_X5_121 dX5_eyes_17 ?_
      cases Option.some.inj hf
      exact bw_ret rfl rfl (Nat.le_of_ble_eq_true rfl) (Nat.le_of_ble_eq_true rfl) dX5_eyes_19 ⟨rfl, rfl⟩
  · have hf := bw_pos c_9 hf
    refine bw_ldc ct_X5_125 dX5_eyes_7 ?_
    cases Option.some.inj hf
    exact bw_ret rfl rfl (Nat.le_of_ble_eq_true rfl) (Nat.le_of_ble_eq_true rfl) dX5_eyes_9 ⟨rfl, rfl⟩
theorem ar_X5_adds : yX5_adds.cls ≠ "java/lang/invoke/MethodHandle" ∧ yX5_adds.cls ≠ "java/lang/invoke/VarHandle" ∧ (parseMethodDescriptor yX5_adds.desc).map (fun d => d.parameters.length) = some 2 := ⟨by decide, by decide, by decide +kernel⟩
def f_X5_adds (vh_all : Nat → Int32) (p0 : Int32) (p1 : Int32) : Option ((Nat → Int32)) := (if bw_in 3 120 then (if bw_in ((48 + (vh_all (Int32.toNatClampNeg 3)))) 120 then (if bw_in 3 120 then (if bw_in ((72 + (((upd vh_all (Int32.toNatClampNeg ((48 + (vh_all (Int32.toNatClampNeg 3))))) p0)) (Int32.toNatClampNeg 3)))) 120 then (if bw_in 3 120 then (if bw_in 3 120 then some (upd ((upd ((upd vh_all (Int32.toNatClampNeg ((48 + (vh_all (Int32.toNatClampNeg 3))))) p0)) (Int32.toNatClampNeg ((72 + (((upd vh_all (Int32.toNatClampNeg ((48 + (vh_all (Int32.toNatClampNeg 3))))) p0)) (Int32.toNatClampNeg 3))))) p1)) (Int32.toNatClampNeg 3) (((((upd ((upd vh_all (Int32.toNatClampNeg ((48 + (vh_all (Int32.toNatClampNeg 3))))) p0)) (Int32.toNatClampNeg ((72 + (((upd vh_all (Int32.toNatClampNeg ((48 + (vh_all (Int32.toNatClampNeg 3))))) p0)) (Int32.toNatClampNeg 3))))) p1)) (Int32.toNatClampNeg 3)) + 1))) else none) else none) else none) else none) else none) else none)
set_option maxHeartbeats 4000000 in
set_option maxRecDepth 100000 in
theorem s_X5_adds (l : Launch) (g : bwG) (ah ah_all ah_kept ah_history ah_slots ah_isSaved ah_words ah_left ah_seen ah_text ah_signs ah_pauses : Nat) (vh_historyLong : Int32) (vh_groups : Int32) (vh_leftLong : Int32) (vh_textLong : Int32) (vh_spot : Int32) (vh_read : Int32) (vh_all : Nat → Int32) (p0 : Int32) (p1 : Int32) (res : (Nat → Int32)) (hf : f_X5_adds vh_all p0 p1 = some res) : bwS l g yX5_adds cX5_adds 3 none ({ frames := 0, cells := 0, slots := 0, locals := 0 } : Room) [.ref ah, .int p0, .int p1] ([(ah, .inr (5, [.ref ah_all, .ref ah_kept, .ref ah_history, .int vh_historyLong, .ref ah_slots, .ref ah_isSaved, .ref ah_words, .int vh_groups, .ref ah_left, .int vh_leftLong, .ref ah_seen, .ref ah_text, .int vh_textLong, .int vh_spot, .ref ah_signs, .ref ah_pauses, .int vh_read])), (ah_all, .inl (g.2.1, 120, .inl vh_all))]) (fun r w => r = none ∧ w = [(ah, .inr (5, [.ref ah_all, .ref ah_kept, .ref ah_history, .int vh_historyLong, .ref ah_slots, .ref ah_isSaved, .ref ah_words, .int vh_groups, .ref ah_left, .int vh_leftLong, .ref ah_seen, .ref ah_text, .int vh_textLong, .int vh_spot, .ref ah_signs, .ref ah_pauses, .int vh_read])), (ah_all, .inl (g.2.1, 120, .inl res))]) := by
  refine bwS_of (by decide) (Nat.le_of_ble_eq_true rfl) ?_
  unfold f_X5_adds at hf
  show bwR l g cX5_adds 3 RX5 "adds" none ({ frames := 0, cells := 0, slots := 0, locals := 0 } : Room) bwT (bwZ g (fun r w => r = none ∧ w = [(ah, .inr (5, [.ref ah_all, .ref ah_kept, .ref ah_history, .int vh_historyLong, .ref ah_slots, .ref ah_isSaved, .ref ah_words, .int vh_groups, .ref ah_left, .int vh_leftLong, .ref ah_seen, .ref ah_text, .int vh_textLong, .int vh_spot, .ref ah_signs, .ref ah_pauses, .int vh_read])), (ah_all, .inl (g.2.1, 120, .inl res))]) 0 0) 0 [(0, .ref ah), (1, .int p0), (2, .int p1)] [] ([(ah, .inr (5, [.ref ah_all, .ref ah_kept, .ref ah_history, .int vh_historyLong, .ref ah_slots, .ref ah_isSaved, .ref ah_words, .int vh_groups, .ref ah_left, .int vh_leftLong, .ref ah_seen, .ref ah_text, .int vh_textLong, .int vh_spot, .ref ah_signs, .ref ah_pauses, .int vh_read])), (ah_all, .inl (g.2.1, 120, .inl vh_all))]) 0 0
  refine bw_aload_n 0 dX5_adds_0 rfl rfl ?_
  refine bw_gf bkX5 0 0 (by decide) fl_X5_7 rfl rfl dX5_adds_1 ?_
  refine bw_bipush 48 dX5_adds_4 (by decide) ?_
  refine bw_aload_n 0 dX5_adds_6 rfl rfl ?_
  refine bw_gf bkX5 0 0 (by decide) fl_X5_7 rfl rfl dX5_adds_7 ?_
  refine bw_iconst 3 dX5_adds_10 (by decide) ?_
  obtain ⟨h_7, hf⟩ := bw_chk hf
  refine bw_iald 1 rfl h_7 dX5_adds_11 ?_
  refine bw_iadd dX5_adds_12 ?_
  refine bw_iload_n 1 dX5_adds_13 rfl rfl ?_
  obtain ⟨h_8, hf⟩ := bw_chk hf
  refine bw_iast 1 ([(ah, .inr (5, [.ref ah_all, .ref ah_kept, .ref ah_history, .int vh_historyLong, .ref ah_slots, .ref ah_isSaved, .ref ah_words, .int vh_groups, .ref ah_left, .int vh_leftLong, .ref ah_seen, .ref ah_text, .int vh_textLong, .int vh_spot, .ref ah_signs, .ref ah_pauses, .int vh_read])), (ah_all, .inl (g.2.1, 120, .inl ((upd vh_all (Int32.toNatClampNeg ((48 + (vh_all (Int32.toNatClampNeg 3))))) p0))))]) rfl h_8 rfl dX5_adds_14 ?_
  refine bw_aload_n 0 dX5_adds_15 rfl rfl ?_
  refine bw_gf bkX5 0 0 (by decide) fl_X5_7 rfl rfl dX5_adds_16 ?_
  refine bw_bipush 72 dX5_adds_19 (by decide) ?_
  refine bw_aload_n 0 dX5_adds_21 rfl rfl ?_
  refine bw_gf bkX5 0 0 (by decide) fl_X5_7 rfl rfl dX5_adds_22 ?_
  refine bw_iconst 3 dX5_adds_25 (by decide) ?_
  obtain ⟨h_9, hf⟩ := bw_chk hf
  refine bw_iald 1 rfl h_9 dX5_adds_26 ?_
  refine bw_iadd dX5_adds_27 ?_
  refine bw_iload_n 2 dX5_adds_28 rfl rfl ?_
  obtain ⟨h_10, hf⟩ := bw_chk hf
  refine bw_iast 1 ([(ah, .inr (5, [.ref ah_all, .ref ah_kept, .ref ah_history, .int vh_historyLong, .ref ah_slots, .ref ah_isSaved, .ref ah_words, .int vh_groups, .ref ah_left, .int vh_leftLong, .ref ah_seen, .ref ah_text, .int vh_textLong, .int vh_spot, .ref ah_signs, .ref ah_pauses, .int vh_read])), (ah_all, .inl (g.2.1, 120, .inl ((upd ((upd vh_all (Int32.toNatClampNeg ((48 + (vh_all (Int32.toNatClampNeg 3))))) p0)) (Int32.toNatClampNeg ((72 + (((upd vh_all (Int32.toNatClampNeg ((48 + (vh_all (Int32.toNatClampNeg 3))))) p0)) (Int32.toNatClampNeg 3))))) p1))))]) rfl h_10 rfl dX5_adds_29 ?_
  refine bw_aload_n 0 dX5_adds_30 rfl rfl ?_
  refine bw_gf bkX5 0 0 (by decide) fl_X5_7 rfl rfl dX5_adds_31 ?_
  refine bw_iconst 3 dX5_adds_34 (by decide) ?_
  refine bw_dup2_11 dX5_adds_35 rfl rfl ?_
  obtain ⟨h_11, hf⟩ := bw_chk hf
  refine bw_iald 1 rfl h_11 dX5_adds_36 ?_
  refine bw_iconst 1 dX5_adds_37 (by decide) ?_
  refine bw_iadd dX5_adds_38 ?_
  obtain ⟨h_12, hf⟩ := bw_chk hf
  refine bw_iast 1 ([(ah, .inr (5, [.ref ah_all, .ref ah_kept, .ref ah_history, .int vh_historyLong, .ref ah_slots, .ref ah_isSaved, .ref ah_words, .int vh_groups, .ref ah_left, .int vh_leftLong, .ref ah_seen, .ref ah_text, .int vh_textLong, .int vh_spot, .ref ah_signs, .ref ah_pauses, .int vh_read])), (ah_all, .inl (g.2.1, 120, .inl ((upd ((upd ((upd vh_all (Int32.toNatClampNeg ((48 + (vh_all (Int32.toNatClampNeg 3))))) p0)) (Int32.toNatClampNeg ((72 + (((upd vh_all (Int32.toNatClampNeg ((48 + (vh_all (Int32.toNatClampNeg 3))))) p0)) (Int32.toNatClampNeg 3))))) p1)) (Int32.toNatClampNeg 3) (((((upd ((upd vh_all (Int32.toNatClampNeg ((48 + (vh_all (Int32.toNatClampNeg 3))))) p0)) (Int32.toNatClampNeg ((72 + (((upd vh_all (Int32.toNatClampNeg ((48 + (vh_all (Int32.toNatClampNeg 3))))) p0)) (Int32.toNatClampNeg 3))))) p1)) (Int32.toNatClampNeg 3)) + 1))))))]) rfl h_12 rfl dX5_adds_39 ?_
  cases Option.some.inj hf
  exact bw_vret rfl (Nat.le_of_ble_eq_true rfl) (Nat.le_of_ble_eq_true rfl) dX5_adds_40 ⟨rfl, rfl⟩
theorem ar_X5_bow : yX5_bow.cls ≠ "java/lang/invoke/MethodHandle" ∧ yX5_bow.cls ≠ "java/lang/invoke/VarHandle" ∧ (parseMethodDescriptor yX5_bow.desc).map (fun d => d.parameters.length) = some 3 := ⟨by decide, by decide, by decide +kernel⟩
def f_X5_bow (vh_historyLong : Int32) (vh_all : Nat → Int32) (vh_history : Nat → Int32) (p0 : Int32) (p1 : Int32) (p2 : Int32) : Option (Int32 × (Int32) × (Nat → Int32) × (Nat → Int32)) := ((f_X5_in (((p0 : Int32).toInt64)) 1 3).bind fun q_12 => (if q_12 = 0 then some ((-1000002), vh_historyLong, vh_all, vh_history) else ((f_X5_in (((p1 : Int32).toInt64)) 0 1).bind fun q_14 => (if q_14 = 0 then some ((-1000002), vh_historyLong, vh_all, vh_history) else ((f_X5_in (((p2 : Int32).toInt64)) 0 9).bind fun q_16 => (if q_16 = 0 then some ((-1000002), vh_historyLong, vh_all, vh_history) else (if bw_in 3 120 then (if (vh_all (Int32.toNatClampNeg 3)) = 24 then some ((-1000004), vh_historyLong, vh_all, vh_history) else ((f_X5_changes vh_historyLong vh_all vh_history).bind fun q_20 => ((f_X5_adds vh_all (((2 * (p0 - 1)) + p1)) p2).bind fun q_21 => (if bw_in 3 120 then some ((q_21 (Int32.toNatClampNeg 3)), q_20.1, q_21, q_20.2) else none)))) else none)))))))
set_option maxHeartbeats 4000000 in
set_option maxRecDepth 100000 in
theorem s_X5_bow (l : Launch) (g : bwG) (ah ah_all ah_kept ah_history ah_slots ah_isSaved ah_words ah_left ah_seen ah_text ah_signs ah_pauses : Nat) (vh_historyLong : Int32) (vh_groups : Int32) (vh_leftLong : Int32) (vh_textLong : Int32) (vh_spot : Int32) (vh_read : Int32) (vh_all : Nat → Int32) (vh_history : Nat → Int32) (p0 : Int32) (p1 : Int32) (p2 : Int32) (res : Int32 × (Int32) × (Nat → Int32) × (Nat → Int32)) (hf : f_X5_bow vh_historyLong vh_all vh_history p0 p1 p2 = some res) : bwS l g yX5_bow cX5_bow 4 (some .int) ({ frames := 1, cells := 0, slots := 0, locals := 25 } : Room) [.ref ah, .int p0, .int p1, .int p2] ([(ah, .inr (5, [.ref ah_all, .ref ah_kept, .ref ah_history, .int vh_historyLong, .ref ah_slots, .ref ah_isSaved, .ref ah_words, .int vh_groups, .ref ah_left, .int vh_leftLong, .ref ah_seen, .ref ah_text, .int vh_textLong, .int vh_spot, .ref ah_signs, .ref ah_pauses, .int vh_read])), (ah_all, .inl (g.2.1, 120, .inl vh_all)), (ah_history, .inl (g.2.1, 720, .inl vh_history))]) (fun r w => r = some (.int res.1) ∧ w = [(ah, .inr (5, [.ref ah_all, .ref ah_kept, .ref ah_history, .int res.2.1, .ref ah_slots, .ref ah_isSaved, .ref ah_words, .int vh_groups, .ref ah_left, .int vh_leftLong, .ref ah_seen, .ref ah_text, .int vh_textLong, .int vh_spot, .ref ah_signs, .ref ah_pauses, .int vh_read])), (ah_all, .inl (g.2.1, 120, .inl res.2.2.1)), (ah_history, .inl (g.2.1, 720, .inl res.2.2.2))]) := by
  refine bwS_of (by decide) (Nat.le_of_ble_eq_true rfl) ?_
  unfold f_X5_bow at hf
  show bwR l g cX5_bow 4 RX5 "bow" (some .int) ({ frames := 1, cells := 0, slots := 0, locals := 25 } : Room) bwT (bwZ g (fun r w => r = some (.int res.1) ∧ w = [(ah, .inr (5, [.ref ah_all, .ref ah_kept, .ref ah_history, .int res.2.1, .ref ah_slots, .ref ah_isSaved, .ref ah_words, .int vh_groups, .ref ah_left, .int vh_leftLong, .ref ah_seen, .ref ah_text, .int vh_textLong, .int vh_spot, .ref ah_signs, .ref ah_pauses, .int vh_read])), (ah_all, .inl (g.2.1, 120, .inl res.2.2.1)), (ah_history, .inl (g.2.1, 720, .inl res.2.2.2))]) 0 0) 0 [(0, .ref ah), (1, .int p0), (2, .int p1), (3, .int p2)] [] ([(ah, .inr (5, [.ref ah_all, .ref ah_kept, .ref ah_history, .int vh_historyLong, .ref ah_slots, .ref ah_isSaved, .ref ah_words, .int vh_groups, .ref ah_left, .int vh_leftLong, .ref ah_seen, .ref ah_text, .int vh_textLong, .int vh_spot, .ref ah_signs, .ref ah_pauses, .int vh_read])), (ah_all, .inl (g.2.1, 120, .inl vh_all)), (ah_history, .inl (g.2.1, 720, .inl vh_history))]) 0 0
  refine bw_iload_n 1 dX5_bow_0 rfl rfl ?_
  refine bw_i2l dX5_bow_1 ?_
  refine bw_lconst 1 dX5_bow_2 (by decide) ?_
  refine bw_ldc2 ct_X5_129 dX5_bow_3 ?_
  obtain ⟨q_12, hc_12, hf⟩ := bw_bind hf
  refine bw_callS [.long (((p0 : Int32).toInt64)), .long 1, .long 3] [] [(ah, .inr (5, [.ref ah_all, .ref ah_kept, .ref ah_history, .int vh_historyLong, .ref ah_slots, .ref ah_isSaved, .ref ah_words, .int vh_groups, .ref ah_left, .int vh_leftLong, .ref ah_seen, .ref ah_text, .int vh_textLong, .int vh_spot, .ref ah_signs, .ref ah_pauses, .int vh_read])), (ah_all, .inl (g.2.1, 120, .inl vh_all)), (ah_history, .inl (g.2.1, 720, .inl vh_history))] (s_X5_in l g   (((p0 : Int32).toInt64)) 1 3 _ hc_12) rfl co_X5_in ini_X5 ml_X5_49 st_X5_in ar_X5_in ⟨Nat.le_of_ble_eq_true rfl, Nat.le_of_ble_eq_true rfl⟩ ⟨Nat.le_of_ble_eq_true rfl, Nat.le_of_ble_eq_true rfl⟩ (bw_pick1 3 [0, 1, 2] rfl rfl (by decide)) (Nat.le_of_ble_eq_true rfl) dX5_bow_6 (fun r w1 hq => ?_)
  obtain ⟨rfl, rfl⟩ := hq
  refine bw_perm (ws1 := [(ah, .inr (5, [.ref ah_all, .ref ah_kept, .ref ah_history, .int vh_historyLong, .ref ah_slots, .ref ah_isSaved, .ref ah_words, .int vh_groups, .ref ah_left, .int vh_leftLong, .ref ah_seen, .ref ah_text, .int vh_textLong, .int vh_spot, .ref ah_signs, .ref ah_pauses, .int vh_read])), (ah_all, .inl (g.2.1, 120, .inl vh_all)), (ah_history, .inl (g.2.1, 720, .inl vh_history))]) (bw_pick1 3 [0, 1, 2] rfl rfl (by decide)) ?_
  refine bw_st (st1 := [.int q_12]) rfl ?_
  refine bw_if_eq 34 dX5_bow_9 (by decide) (fun c_13 => ?_) (fun c_13 => ?_)
  · have hf := bw_pos c_13 hf
    refine bw_ldc ct_X5_121 dX5_bow_34 ?_
    cases Option.some.inj hf
    exact bw_ret rfl rfl (Nat.le_of_ble_eq_true rfl) (Nat.le_of_ble_eq_true rfl) dX5_bow_36 ⟨rfl, rfl⟩
  · have hf := bw_neg c_13 hf
    refine bw_iload_n 2 dX5_bow_12 rfl rfl ?_
    refine bw_i2l dX5_bow_13 ?_
    refine bw_lconst 0 dX5_bow_14 (by decide) ?_
    refine bw_lconst 1 dX5_bow_15 (by decide) ?_
    obtain ⟨q_14, hc_14, hf⟩ := bw_bind hf
    refine bw_callS [.long (((p1 : Int32).toInt64)), .long 0, .long 1] [] [(ah, .inr (5, [.ref ah_all, .ref ah_kept, .ref ah_history, .int vh_historyLong, .ref ah_slots, .ref ah_isSaved, .ref ah_words, .int vh_groups, .ref ah_left, .int vh_leftLong, .ref ah_seen, .ref ah_text, .int vh_textLong, .int vh_spot, .ref ah_signs, .ref ah_pauses, .int vh_read])), (ah_all, .inl (g.2.1, 120, .inl vh_all)), (ah_history, .inl (g.2.1, 720, .inl vh_history))] (s_X5_in l g   (((p1 : Int32).toInt64)) 0 1 _ hc_14) rfl co_X5_in ini_X5 ml_X5_49 st_X5_in ar_X5_in ⟨Nat.le_of_ble_eq_true rfl, Nat.le_of_ble_eq_true rfl⟩ ⟨Nat.le_of_ble_eq_true rfl, Nat.le_of_ble_eq_true rfl⟩ (bw_pick1 3 [0, 1, 2] rfl rfl (by decide)) (Nat.le_of_ble_eq_true rfl) dX5_bow_16 (fun r w1 hq => ?_)
    obtain ⟨rfl, rfl⟩ := hq
    refine bw_perm (ws1 := [(ah, .inr (5, [.ref ah_all, .ref ah_kept, .ref ah_history, .int vh_historyLong, .ref ah_slots, .ref ah_isSaved, .ref ah_words, .int vh_groups, .ref ah_left, .int vh_leftLong, .ref ah_seen, .ref ah_text, .int vh_textLong, .int vh_spot, .ref ah_signs, .ref ah_pauses, .int vh_read])), (ah_all, .inl (g.2.1, 120, .inl vh_all)), (ah_history, .inl (g.2.1, 720, .inl vh_history))]) (bw_pick1 3 [0, 1, 2] rfl rfl (by decide)) ?_
    refine bw_st (st1 := [.int q_14]) rfl ?_
    refine bw_if_eq 34 dX5_bow_19 (by decide) (fun c_15 => ?_) (fun c_15 => ?_)
    · have hf := bw_pos c_15 hf
      refine bw_ldc ct_X5_121 dX5_bow_34 ?_
      cases Option.some.inj hf
      exact bw_ret rfl rfl (Nat.le_of_ble_eq_true rfl) (Nat.le_of_ble_eq_true rfl) dX5_bow_36 ⟨rfl, rfl⟩
    · have hf := bw_neg c_15 hf
      refine bw_iload_n 3 dX5_bow_22 rfl rfl ?_
      refine bw_i2l dX5_bow_23 ?_
      refine bw_lconst 0 dX5_bow_24 (by decide) ?_
      refine bw_ldc2 ct_X5_116 dX5_bow_25 ?_
      obtain ⟨q_16, hc_16, hf⟩ := bw_bind hf
      refine bw_callS [.long (((p2 : Int32).toInt64)), .long 0, .long 9] [] [(ah, .inr (5, [.ref ah_all, .ref ah_kept, .ref ah_history, .int vh_historyLong, .ref ah_slots, .ref ah_isSaved, .ref ah_words, .int vh_groups, .ref ah_left, .int vh_leftLong, .ref ah_seen, .ref ah_text, .int vh_textLong, .int vh_spot, .ref ah_signs, .ref ah_pauses, .int vh_read])), (ah_all, .inl (g.2.1, 120, .inl vh_all)), (ah_history, .inl (g.2.1, 720, .inl vh_history))] (s_X5_in l g   (((p2 : Int32).toInt64)) 0 9 _ hc_16) rfl co_X5_in ini_X5 ml_X5_49 st_X5_in ar_X5_in ⟨Nat.le_of_ble_eq_true rfl, Nat.le_of_ble_eq_true rfl⟩ ⟨Nat.le_of_ble_eq_true rfl, Nat.le_of_ble_eq_true rfl⟩ (bw_pick1 3 [0, 1, 2] rfl rfl (by decide)) (Nat.le_of_ble_eq_true rfl) dX5_bow_28 (fun r w1 hq => ?_)
      obtain ⟨rfl, rfl⟩ := hq
      refine bw_perm (ws1 := [(ah, .inr (5, [.ref ah_all, .ref ah_kept, .ref ah_history, .int vh_historyLong, .ref ah_slots, .ref ah_isSaved, .ref ah_words, .int vh_groups, .ref ah_left, .int vh_leftLong, .ref ah_seen, .ref ah_text, .int vh_textLong, .int vh_spot, .ref ah_signs, .ref ah_pauses, .int vh_read])), (ah_all, .inl (g.2.1, 120, .inl vh_all)), (ah_history, .inl (g.2.1, 720, .inl vh_history))]) (bw_pick1 3 [0, 1, 2] rfl rfl (by decide)) ?_
      refine bw_st (st1 := [.int q_16]) rfl ?_
      refine bw_if_ne 37 dX5_bow_31 (by decide) (fun c_17 => ?_) (fun c_17 => ?_)
      · have hf := bw_neg c_17 hf
        refine bw_aload_n 0 dX5_bow_37 rfl rfl ?_
        refine bw_gf bkX5 0 0 (by decide) fl_X5_7 rfl rfl dX5_bow_38 ?_
        refine bw_iconst 3 dX5_bow_41 (by decide) ?_
        obtain ⟨h_18, hf⟩ := bw_chk hf
        refine bw_iald 1 rfl h_18 dX5_bow_42 ?_
        refine bw_bipush 24 dX5_bow_43 (by decide) ?_
        refine bw_icmp_ne 51 dX5_bow_45 (by decide) (fun c_19 => ?_) (fun c_19 => ?_)
        · have hf := bw_neg c_19 hf
          refine bw_aload_n 0 dX5_bow_51 rfl rfl ?_
          obtain ⟨q_20, hc_20, hf⟩ := bw_bind hf
          refine bw_callV [] [] [] 0 5 (s_X5_changes l g ah ah_all ah_kept ah_history ah_slots ah_isSaved ah_words ah_left ah_seen ah_text ah_signs ah_pauses vh_historyLong vh_groups vh_leftLong vh_textLong vh_spot vh_read vh_all vh_history  _ hc_20) rfl co_X5_changes ini_X5 ml_X5_122 im_X5_changes se_X5_changes ar_X5_changes ⟨Nat.le_of_ble_eq_true rfl, Nat.le_of_ble_eq_true rfl⟩ ⟨Nat.le_of_ble_eq_true rfl, Nat.le_of_ble_eq_true rfl⟩ rfl rfl (bw_pick1 3 [0, 1, 2] rfl rfl (by decide)) (Nat.le_of_ble_eq_true rfl) dX5_bow_52 (fun r w1 hq => ?_)
          obtain ⟨rfl, rfl⟩ := hq
          refine bw_perm (ws1 := [(ah, .inr (5, [.ref ah_all, .ref ah_kept, .ref ah_history, .int q_20.1, .ref ah_slots, .ref ah_isSaved, .ref ah_words, .int vh_groups, .ref ah_left, .int vh_leftLong, .ref ah_seen, .ref ah_text, .int vh_textLong, .int vh_spot, .ref ah_signs, .ref ah_pauses, .int vh_read])), (ah_all, .inl (g.2.1, 120, .inl vh_all)), (ah_history, .inl (g.2.1, 720, .inl q_20.2))]) (bw_pick1 3 [0, 1, 2] rfl rfl (by decide)) ?_
          refine bw_st (st1 := []) rfl ?_
          refine bw_aload_n 0 dX5_bow_55 rfl rfl ?_
          refine bw_iconst 2 dX5_bow_56 (by decide) ?_
          refine bw_iload_n 1 dX5_bow_57 rfl rfl ?_
          refine bw_iconst 1 dX5_bow_58 (by decide) ?_
          refine bw_isub dX5_bow_59 ?_
          refine bw_imul dX5_bow_60 ?_
          refine bw_iload_n 2 dX5_bow_61 rfl rfl ?_
          refine bw_iadd dX5_bow_62 ?_
          refine bw_iload_n 3 dX5_bow_63 rfl rfl ?_
          obtain ⟨q_21, hc_21, hf⟩ := bw_bind hf
          refine bw_callV [.int (((2 * (p0 - 1)) + p1)), .int p2] [] [(ah_history, .inl (g.2.1, 720, .inl q_20.2))] 0 5 (s_X5_adds l g ah ah_all ah_kept ah_history ah_slots ah_isSaved ah_words ah_left ah_seen ah_text ah_signs ah_pauses q_20.1 vh_groups vh_leftLong vh_textLong vh_spot vh_read vh_all (((2 * (p0 - 1)) + p1)) p2 _ hc_21) rfl co_X5_adds ini_X5 ml_X5_132 im_X5_adds se_X5_adds ar_X5_adds ⟨Nat.le_of_ble_eq_true rfl, Nat.le_of_ble_eq_true rfl⟩ ⟨Nat.le_of_ble_eq_true rfl, Nat.le_of_ble_eq_true rfl⟩ rfl rfl (bw_pick1 3 [0, 1, 2] rfl rfl (by decide)) (Nat.le_of_ble_eq_true rfl) dX5_bow_64 (fun r w1 hq => ?_)
          obtain ⟨rfl, rfl⟩ := hq
          refine bw_perm (ws1 := [(ah, .inr (5, [.ref ah_all, .ref ah_kept, .ref ah_history, .int q_20.1, .ref ah_slots, .ref ah_isSaved, .ref ah_words, .int vh_groups, .ref ah_left, .int vh_leftLong, .ref ah_seen, .ref ah_text, .int vh_textLong, .int vh_spot, .ref ah_signs, .ref ah_pauses, .int vh_read])), (ah_all, .inl (g.2.1, 120, .inl q_21)), (ah_history, .inl (g.2.1, 720, .inl q_20.2))]) (bw_pick1 3 [1, 2, 0] rfl rfl (by decide)) ?_
          refine bw_st (st1 := []) rfl ?_
          refine bw_aload_n 0 dX5_bow_67 rfl rfl ?_
          refine bw_gf bkX5 0 0 (by decide) fl_X5_7 rfl rfl dX5_bow_68 ?_
          refine bw_iconst 3 dX5_bow_71 (by decide) ?_
          obtain ⟨h_22, hf⟩ := bw_chk hf
          refine bw_iald 1 rfl h_22 dX5_bow_72 ?_
          cases Option.some.inj hf
          exact bw_ret rfl rfl (Nat.le_of_ble_eq_true rfl) (Nat.le_of_ble_eq_true rfl) dX5_bow_73 ⟨rfl, rfl⟩
        · have hf := bw_pos c_19 hf
          refine bw_ldc ct_X5_131 dX5_bow_48 ?_
          cases Option.some.inj hf
          exact bw_ret rfl rfl (Nat.le_of_ble_eq_true rfl) (Nat.le_of_ble_eq_true rfl) dX5_bow_50 ⟨rfl, rfl⟩
      · have hf := bw_pos c_17 hf
        refine bw_ldc ct_X5_121 dX5_bow_34 ?_
        cases Option.some.inj hf
        exact bw_ret rfl rfl (Nat.le_of_ble_eq_true rfl) (Nat.le_of_ble_eq_true rfl) dX5_bow_36 ⟨rfl, rfl⟩
theorem ar_X5_takeBack : yX5_takeBack.cls ≠ "java/lang/invoke/MethodHandle" ∧ yX5_takeBack.cls ≠ "java/lang/invoke/VarHandle" ∧ (parseMethodDescriptor yX5_takeBack.desc).map (fun d => d.parameters.length) = some 0 := ⟨by decide, by decide, by decide +kernel⟩
def f_X5_takeBack (vh_historyLong : Int32) (vh_all : Nat → Int32) (vh_history : Nat → Int32)  : Option (Int32 × (Int32) × (Nat → Int32) × (Nat → Int32)) := (if bw_in 3 120 then (if (vh_all (Int32.toNatClampNeg 3)) = 0 then some ((-1000005), vh_historyLong, vh_all, vh_history) else ((f_X5_changes vh_historyLong vh_all vh_history).bind fun q_14 => (if bw_in 3 120 then (if bw_in 3 120 then (if bw_in 3 120 then (if bw_in ((48 + (((upd vh_all (Int32.toNatClampNeg 3) (((vh_all (Int32.toNatClampNeg 3)) - 1)))) (Int32.toNatClampNeg 3)))) 120 then (if bw_in 3 120 then (if bw_in ((48 + (((upd vh_all (Int32.toNatClampNeg 3) (((vh_all (Int32.toNatClampNeg 3)) - 1)))) (Int32.toNatClampNeg 3)))) 120 then (if bw_in 3 120 then (if bw_in ((72 + (((upd ((upd vh_all (Int32.toNatClampNeg 3) (((vh_all (Int32.toNatClampNeg 3)) - 1)))) (Int32.toNatClampNeg ((48 + (((upd vh_all (Int32.toNatClampNeg 3) (((vh_all (Int32.toNatClampNeg 3)) - 1)))) (Int32.toNatClampNeg 3))))) 0)) (Int32.toNatClampNeg 3)))) 120 then some ((((upd vh_all (Int32.toNatClampNeg 3) (((vh_all (Int32.toNatClampNeg 3)) - 1)))) (Int32.toNatClampNeg ((48 + (((upd vh_all (Int32.toNatClampNeg 3) (((vh_all (Int32.toNatClampNeg 3)) - 1)))) (Int32.toNatClampNeg 3)))))), q_14.1, (upd ((upd ((upd vh_all (Int32.toNatClampNeg 3) (((vh_all (Int32.toNatClampNeg 3)) - 1)))) (Int32.toNatClampNeg ((48 + (((upd vh_all (Int32.toNatClampNeg 3) (((vh_all (Int32.toNatClampNeg 3)) - 1)))) (Int32.toNatClampNeg 3))))) 0)) (Int32.toNatClampNeg ((72 + (((upd ((upd vh_all (Int32.toNatClampNeg 3) (((vh_all (Int32.toNatClampNeg 3)) - 1)))) (Int32.toNatClampNeg ((48 + (((upd vh_all (Int32.toNatClampNeg 3) (((vh_all (Int32.toNatClampNeg 3)) - 1)))) (Int32.toNatClampNeg 3))))) 0)) (Int32.toNatClampNeg 3))))) 0), q_14.2) else none) else none) else none) else none) else none) else none) else none) else none))) else none)
set_option maxHeartbeats 4000000 in
set_option maxRecDepth 100000 in
theorem s_X5_takeBack (l : Launch) (g : bwG) (ah ah_all ah_kept ah_history ah_slots ah_isSaved ah_words ah_left ah_seen ah_text ah_signs ah_pauses : Nat) (vh_historyLong : Int32) (vh_groups : Int32) (vh_leftLong : Int32) (vh_textLong : Int32) (vh_spot : Int32) (vh_read : Int32) (vh_all : Nat → Int32) (vh_history : Nat → Int32)  (res : Int32 × (Int32) × (Nat → Int32) × (Nat → Int32)) (hf : f_X5_takeBack vh_historyLong vh_all vh_history  = some res) : bwS l g yX5_takeBack cX5_takeBack 2 (some .int) ({ frames := 1, cells := 0, slots := 0, locals := 21 } : Room) [.ref ah] ([(ah, .inr (5, [.ref ah_all, .ref ah_kept, .ref ah_history, .int vh_historyLong, .ref ah_slots, .ref ah_isSaved, .ref ah_words, .int vh_groups, .ref ah_left, .int vh_leftLong, .ref ah_seen, .ref ah_text, .int vh_textLong, .int vh_spot, .ref ah_signs, .ref ah_pauses, .int vh_read])), (ah_all, .inl (g.2.1, 120, .inl vh_all)), (ah_history, .inl (g.2.1, 720, .inl vh_history))]) (fun r w => r = some (.int res.1) ∧ w = [(ah, .inr (5, [.ref ah_all, .ref ah_kept, .ref ah_history, .int res.2.1, .ref ah_slots, .ref ah_isSaved, .ref ah_words, .int vh_groups, .ref ah_left, .int vh_leftLong, .ref ah_seen, .ref ah_text, .int vh_textLong, .int vh_spot, .ref ah_signs, .ref ah_pauses, .int vh_read])), (ah_all, .inl (g.2.1, 120, .inl res.2.2.1)), (ah_history, .inl (g.2.1, 720, .inl res.2.2.2))]) := by
  refine bwS_of (by decide) (Nat.le_of_ble_eq_true rfl) ?_
  unfold f_X5_takeBack at hf
  show bwR l g cX5_takeBack 2 RX5 "takeBack" (some .int) ({ frames := 1, cells := 0, slots := 0, locals := 21 } : Room) bwT (bwZ g (fun r w => r = some (.int res.1) ∧ w = [(ah, .inr (5, [.ref ah_all, .ref ah_kept, .ref ah_history, .int res.2.1, .ref ah_slots, .ref ah_isSaved, .ref ah_words, .int vh_groups, .ref ah_left, .int vh_leftLong, .ref ah_seen, .ref ah_text, .int vh_textLong, .int vh_spot, .ref ah_signs, .ref ah_pauses, .int vh_read])), (ah_all, .inl (g.2.1, 120, .inl res.2.2.1)), (ah_history, .inl (g.2.1, 720, .inl res.2.2.2))]) 0 0) 0 [(0, .ref ah)] [] ([(ah, .inr (5, [.ref ah_all, .ref ah_kept, .ref ah_history, .int vh_historyLong, .ref ah_slots, .ref ah_isSaved, .ref ah_words, .int vh_groups, .ref ah_left, .int vh_leftLong, .ref ah_seen, .ref ah_text, .int vh_textLong, .int vh_spot, .ref ah_signs, .ref ah_pauses, .int vh_read])), (ah_all, .inl (g.2.1, 120, .inl vh_all)), (ah_history, .inl (g.2.1, 720, .inl vh_history))]) 0 0
  refine bw_aload_n 0 dX5_takeBack_0 rfl rfl ?_
  refine bw_gf bkX5 0 0 (by decide) fl_X5_7 rfl rfl dX5_takeBack_1 ?_
  refine bw_iconst 3 dX5_takeBack_4 (by decide) ?_
  obtain ⟨h_12, hf⟩ := bw_chk hf
  refine bw_iald 1 rfl h_12 dX5_takeBack_5 ?_
  refine bw_if_ne 12 dX5_takeBack_6 (by decide) (fun c_13 => ?_) (fun c_13 => ?_)
  · have hf := bw_neg c_13 hf
    refine bw_aload_n 0 dX5_takeBack_12 rfl rfl ?_
    obtain ⟨q_14, hc_14, hf⟩ := bw_bind hf
    refine bw_callV [] [] [] 0 5 (s_X5_changes l g ah ah_all ah_kept ah_history ah_slots ah_isSaved ah_words ah_left ah_seen ah_text ah_signs ah_pauses vh_historyLong vh_groups vh_leftLong vh_textLong vh_spot vh_read vh_all vh_history  _ hc_14) rfl co_X5_changes ini_X5 ml_X5_122 im_X5_changes se_X5_changes ar_X5_changes ⟨Nat.le_of_ble_eq_true rfl, Nat.le_of_ble_eq_true rfl⟩ ⟨Nat.le_of_ble_eq_true rfl, Nat.le_of_ble_eq_true rfl⟩ rfl rfl (bw_pick1 3 [0, 1, 2] rfl rfl (by decide)) (Nat.le_of_ble_eq_true rfl) dX5_takeBack_13 (fun r w1 hq => ?_)
    obtain ⟨rfl, rfl⟩ := hq
    refine bw_perm (ws1 := [(ah, .inr (5, [.ref ah_all, .ref ah_kept, .ref ah_history, .int q_14.1, .ref ah_slots, .ref ah_isSaved, .ref ah_words, .int vh_groups, .ref ah_left, .int vh_leftLong, .ref ah_seen, .ref ah_text, .int vh_textLong, .int vh_spot, .ref ah_signs, .ref ah_pauses, .int vh_read])), (ah_all, .inl (g.2.1, 120, .inl vh_all)), (ah_history, .inl (g.2.1, 720, .inl q_14.2))]) (bw_pick1 3 [0, 1, 2] rfl rfl (by decide)) ?_
    refine bw_st (st1 := []) rfl ?_
    refine bw_aload_n 0 dX5_takeBack_16 rfl rfl ?_
    refine bw_gf bkX5 0 0 (by decide) fl_X5_7 rfl rfl dX5_takeBack_17 ?_
    refine bw_iconst 3 dX5_takeBack_20 (by decide) ?_
    refine bw_dup2_11 dX5_takeBack_21 rfl rfl ?_
    obtain ⟨h_15, hf⟩ := bw_chk hf
    refine bw_iald 1 rfl h_15 dX5_takeBack_22 ?_
    refine bw_iconst 1 dX5_takeBack_23 (by decide) ?_
    refine bw_isub dX5_takeBack_24 ?_
    obtain ⟨h_16, hf⟩ := bw_chk hf
    refine bw_iast 1 ([(ah, .inr (5, [.ref ah_all, .ref ah_kept, .ref ah_history, .int q_14.1, .ref ah_slots, .ref ah_isSaved, .ref ah_words, .int vh_groups, .ref ah_left, .int vh_leftLong, .ref ah_seen, .ref ah_text, .int vh_textLong, .int vh_spot, .ref ah_signs, .ref ah_pauses, .int vh_read])), (ah_all, .inl (g.2.1, 120, .inl ((upd vh_all (Int32.toNatClampNeg 3) (((vh_all (Int32.toNatClampNeg 3)) - 1)))))), (ah_history, .inl (g.2.1, 720, .inl q_14.2))]) rfl h_16 rfl dX5_takeBack_25 ?_
    refine bw_aload_n 0 dX5_takeBack_26 rfl rfl ?_
    refine bw_gf bkX5 0 0 (by decide) fl_X5_7 rfl rfl dX5_takeBack_27 ?_
    refine bw_bipush 48 dX5_takeBack_30 (by decide) ?_
    refine bw_aload_n 0 dX5_takeBack_32 rfl rfl ?_
    refine bw_gf bkX5 0 0 (by decide) fl_X5_7 rfl rfl dX5_takeBack_33 ?_
    refine bw_iconst 3 dX5_takeBack_36 (by decide) ?_
    obtain ⟨h_17, hf⟩ := bw_chk hf
    refine bw_iald 1 rfl h_17 dX5_takeBack_37 ?_
    refine bw_iadd dX5_takeBack_38 ?_
    obtain ⟨h_18, hf⟩ := bw_chk hf
    refine bw_iald 1 rfl h_18 dX5_takeBack_39 ?_
    refine bw_istore_n [(1, .int ((((upd vh_all (Int32.toNatClampNeg 3) (((vh_all (Int32.toNatClampNeg 3)) - 1)))) (Int32.toNatClampNeg ((48 + (((upd vh_all (Int32.toNatClampNeg 3) (((vh_all (Int32.toNatClampNeg 3)) - 1)))) (Int32.toNatClampNeg 3)))))))), (0, .ref ah)] dX5_takeBack_40 rfl (by decide) rfl ?_
    refine bw_aload_n 1 dX5_takeBack_41 rfl rfl ?_
    refine bw_gf bkX5 0 0 (by decide) fl_X5_7 rfl rfl dX5_takeBack_42 ?_
    refine bw_bipush 48 dX5_takeBack_45 (by decide) ?_
    refine bw_aload_n 1 dX5_takeBack_47 rfl rfl ?_
    refine bw_gf bkX5 0 0 (by decide) fl_X5_7 rfl rfl dX5_takeBack_48 ?_
    refine bw_iconst 3 dX5_takeBack_51 (by decide) ?_
    obtain ⟨h_19, hf⟩ := bw_chk hf
    refine bw_iald 1 rfl h_19 dX5_takeBack_52 ?_
    refine bw_iadd dX5_takeBack_53 ?_
    refine bw_iconst 0 dX5_takeBack_54 (by decide) ?_
    obtain ⟨h_20, hf⟩ := bw_chk hf
    refine bw_iast 1 ([(ah, .inr (5, [.ref ah_all, .ref ah_kept, .ref ah_history, .int q_14.1, .ref ah_slots, .ref ah_isSaved, .ref ah_words, .int vh_groups, .ref ah_left, .int vh_leftLong, .ref ah_seen, .ref ah_text, .int vh_textLong, .int vh_spot, .ref ah_signs, .ref ah_pauses, .int vh_read])), (ah_all, .inl (g.2.1, 120, .inl ((upd ((upd vh_all (Int32.toNatClampNeg 3) (((vh_all (Int32.toNatClampNeg 3)) - 1)))) (Int32.toNatClampNeg ((48 + (((upd vh_all (Int32.toNatClampNeg 3) (((vh_all (Int32.toNatClampNeg 3)) - 1)))) (Int32.toNatClampNeg 3))))) 0)))), (ah_history, .inl (g.2.1, 720, .inl q_14.2))]) rfl h_20 rfl dX5_takeBack_55 ?_
    refine bw_aload_n 1 dX5_takeBack_56 rfl rfl ?_
    refine bw_gf bkX5 0 0 (by decide) fl_X5_7 rfl rfl dX5_takeBack_57 ?_
    refine bw_bipush 72 dX5_takeBack_60 (by decide) ?_
    refine bw_aload_n 1 dX5_takeBack_62 rfl rfl ?_
    refine bw_gf bkX5 0 0 (by decide) fl_X5_7 rfl rfl dX5_takeBack_63 ?_
    refine bw_iconst 3 dX5_takeBack_66 (by decide) ?_
    obtain ⟨h_21, hf⟩ := bw_chk hf
    refine bw_iald 1 rfl h_21 dX5_takeBack_67 ?_
    refine bw_iadd dX5_takeBack_68 ?_
    refine bw_iconst 0 dX5_takeBack_69 (by decide) ?_
    obtain ⟨h_22, hf⟩ := bw_chk hf
    refine bw_iast 1 ([(ah, .inr (5, [.ref ah_all, .ref ah_kept, .ref ah_history, .int q_14.1, .ref ah_slots, .ref ah_isSaved, .ref ah_words, .int vh_groups, .ref ah_left, .int vh_leftLong, .ref ah_seen, .ref ah_text, .int vh_textLong, .int vh_spot, .ref ah_signs, .ref ah_pauses, .int vh_read])), (ah_all, .inl (g.2.1, 120, .inl ((upd ((upd ((upd vh_all (Int32.toNatClampNeg 3) (((vh_all (Int32.toNatClampNeg 3)) - 1)))) (Int32.toNatClampNeg ((48 + (((upd vh_all (Int32.toNatClampNeg 3) (((vh_all (Int32.toNatClampNeg 3)) - 1)))) (Int32.toNatClampNeg 3))))) 0)) (Int32.toNatClampNeg ((72 + (((upd ((upd vh_all (Int32.toNatClampNeg 3) (((vh_all (Int32.toNatClampNeg 3)) - 1)))) (Int32.toNatClampNeg ((48 + (((upd vh_all (Int32.toNatClampNeg 3) (((vh_all (Int32.toNatClampNeg 3)) - 1)))) (Int32.toNatClampNeg 3))))) 0)) (Int32.toNatClampNeg 3))))) 0)))), (ah_history, .inl (g.2.1, 720, .inl q_14.2))]) rfl h_22 rfl dX5_takeBack_70 ?_
    refine bw_iload_n 0 dX5_takeBack_71 rfl rfl ?_
    cases Option.some.inj hf
    exact bw_ret rfl rfl (Nat.le_of_ble_eq_true rfl) (Nat.le_of_ble_eq_true rfl) dX5_takeBack_72 ⟨rfl, rfl⟩
  · have hf := bw_pos c_13 hf
    refine bw_ldc ct_X5_136 dX5_takeBack_9 ?_
    cases Option.some.inj hf
    exact bw_ret rfl rfl (Nat.le_of_ble_eq_true rfl) (Nat.le_of_ble_eq_true rfl) dX5_takeBack_11 ⟨rfl, rfl⟩
theorem ar_X5_isHere : yX5_isHere.cls ≠ "java/lang/invoke/MethodHandle" ∧ yX5_isHere.cls ≠ "java/lang/invoke/VarHandle" ∧ (parseMethodDescriptor yX5_isHere.desc).map (fun d => d.parameters.length) = some 2 := ⟨by decide, by decide, by decide +kernel⟩
def f_X5_isHere (vh_textLong : Int32) (vh_spot : Int32) (vh_text : Nat → Int32) (p0 : Int32) (p1 : Int32) : Option (Int32) := (if vh_textLong ≤ vh_spot then some 0 else (if bw_in vh_spot 60 then ((f_X5_in (((((vh_text (Int32.toNatClampNeg vh_spot))) : Int32).toInt64)) (((p0 : Int32).toInt64)) (((p1 : Int32).toInt64))).bind fun q_7 => (if q_7 = 0 then some 0 else some 1)) else none))
set_option maxHeartbeats 4000000 in
set_option maxRecDepth 100000 in
theorem s_X5_isHere (l : Launch) (g : bwG) (ah ah_all ah_kept ah_history ah_slots ah_isSaved ah_words ah_left ah_seen ah_text ah_signs ah_pauses : Nat) (vh_historyLong : Int32) (vh_groups : Int32) (vh_leftLong : Int32) (vh_textLong : Int32) (vh_spot : Int32) (vh_read : Int32) (vh_text : Nat → Int32) (p0 : Int32) (p1 : Int32) (res : Int32) (hf : f_X5_isHere vh_textLong vh_spot vh_text p0 p1 = some res) : bwS l g yX5_isHere cX5_isHere 3 (some .boolean) ({ frames := 1, cells := 0, slots := 0, locals := 25 } : Room) [.ref ah, .int p0, .int p1] ([(ah, .inr (5, [.ref ah_all, .ref ah_kept, .ref ah_history, .int vh_historyLong, .ref ah_slots, .ref ah_isSaved, .ref ah_words, .int vh_groups, .ref ah_left, .int vh_leftLong, .ref ah_seen, .ref ah_text, .int vh_textLong, .int vh_spot, .ref ah_signs, .ref ah_pauses, .int vh_read])), (ah_text, .inl (g.2.1, 60, .inl vh_text))]) (fun r w => r = some (.int res) ∧ w = [(ah, .inr (5, [.ref ah_all, .ref ah_kept, .ref ah_history, .int vh_historyLong, .ref ah_slots, .ref ah_isSaved, .ref ah_words, .int vh_groups, .ref ah_left, .int vh_leftLong, .ref ah_seen, .ref ah_text, .int vh_textLong, .int vh_spot, .ref ah_signs, .ref ah_pauses, .int vh_read])), (ah_text, .inl (g.2.1, 60, .inl vh_text))]) := by
  refine bwS_of (by decide) (Nat.le_of_ble_eq_true rfl) ?_
  unfold f_X5_isHere at hf
  show bwR l g cX5_isHere 3 RX5 "isHere" (some .boolean) ({ frames := 1, cells := 0, slots := 0, locals := 25 } : Room) bwT (bwZ g (fun r w => r = some (.int res) ∧ w = [(ah, .inr (5, [.ref ah_all, .ref ah_kept, .ref ah_history, .int vh_historyLong, .ref ah_slots, .ref ah_isSaved, .ref ah_words, .int vh_groups, .ref ah_left, .int vh_leftLong, .ref ah_seen, .ref ah_text, .int vh_textLong, .int vh_spot, .ref ah_signs, .ref ah_pauses, .int vh_read])), (ah_text, .inl (g.2.1, 60, .inl vh_text))]) 0 0) 0 [(0, .ref ah), (1, .int p0), (2, .int p1)] [] ([(ah, .inr (5, [.ref ah_all, .ref ah_kept, .ref ah_history, .int vh_historyLong, .ref ah_slots, .ref ah_isSaved, .ref ah_words, .int vh_groups, .ref ah_left, .int vh_leftLong, .ref ah_seen, .ref ah_text, .int vh_textLong, .int vh_spot, .ref ah_signs, .ref ah_pauses, .int vh_read])), (ah_text, .inl (g.2.1, 60, .inl vh_text))]) 0 0
  refine bw_aload_n 0 dX5_isHere_0 rfl rfl ?_
  refine bw_gf bkX5 0 13 (by decide) fl_X5_184 rfl rfl dX5_isHere_1 ?_
  refine bw_aload_n 0 dX5_isHere_4 rfl rfl ?_
  refine bw_gf bkX5 0 12 (by decide) fl_X5_144 rfl rfl dX5_isHere_5 ?_
  refine bw_icmp_ge 35 dX5_isHere_8 (by decide) (fun c_5 => ?_) (fun c_5 => ?_)
  · have hf := bw_pos c_5 hf
    refine bw_iconst 0 dX5_isHere_35 (by decide) ?_
    cases Option.some.inj hf
    exact bw_ret rfl rfl (Nat.le_of_ble_eq_true rfl) (Nat.le_of_ble_eq_true rfl) dX5_isHere_36 ⟨rfl, rfl⟩
  · have hf := bw_neg c_5 hf
    refine bw_aload_n 0 dX5_isHere_11 rfl rfl ?_
    refine bw_gf bkX5 0 11 (by decide) fl_X5_34 rfl rfl dX5_isHere_12 ?_
    refine bw_aload_n 0 dX5_isHere_15 rfl rfl ?_
    refine bw_gf bkX5 0 13 (by decide) fl_X5_184 rfl rfl dX5_isHere_16 ?_
    obtain ⟨h_6, hf⟩ := bw_chk hf
    refine bw_iald 1 rfl h_6 dX5_isHere_19 ?_
    refine bw_i2l dX5_isHere_20 ?_
    refine bw_iload_n 1 dX5_isHere_21 rfl rfl ?_
    refine bw_i2l dX5_isHere_22 ?_
    refine bw_iload_n 2 dX5_isHere_23 rfl rfl ?_
    refine bw_i2l dX5_isHere_24 ?_
    obtain ⟨q_7, hc_7, hf⟩ := bw_bind hf
    refine bw_callS [.long (((((vh_text (Int32.toNatClampNeg vh_spot))) : Int32).toInt64)), .long (((p0 : Int32).toInt64)), .long (((p1 : Int32).toInt64))] [] [(ah, .inr (5, [.ref ah_all, .ref ah_kept, .ref ah_history, .int vh_historyLong, .ref ah_slots, .ref ah_isSaved, .ref ah_words, .int vh_groups, .ref ah_left, .int vh_leftLong, .ref ah_seen, .ref ah_text, .int vh_textLong, .int vh_spot, .ref ah_signs, .ref ah_pauses, .int vh_read])), (ah_text, .inl (g.2.1, 60, .inl vh_text))] (s_X5_in l g   (((((vh_text (Int32.toNatClampNeg vh_spot))) : Int32).toInt64)) (((p0 : Int32).toInt64)) (((p1 : Int32).toInt64)) _ hc_7) rfl co_X5_in ini_X5 ml_X5_49 st_X5_in ar_X5_in ⟨Nat.le_of_ble_eq_true rfl, Nat.le_of_ble_eq_true rfl⟩ ⟨Nat.le_of_ble_eq_true rfl, Nat.le_of_ble_eq_true rfl⟩ (bw_pick1 2 [0, 1] rfl rfl (by decide)) (Nat.le_of_ble_eq_true rfl) dX5_isHere_25 (fun r w1 hq => ?_)
    obtain ⟨rfl, rfl⟩ := hq
    refine bw_perm (ws1 := [(ah, .inr (5, [.ref ah_all, .ref ah_kept, .ref ah_history, .int vh_historyLong, .ref ah_slots, .ref ah_isSaved, .ref ah_words, .int vh_groups, .ref ah_left, .int vh_leftLong, .ref ah_seen, .ref ah_text, .int vh_textLong, .int vh_spot, .ref ah_signs, .ref ah_pauses, .int vh_read])), (ah_text, .inl (g.2.1, 60, .inl vh_text))]) (bw_pick1 2 [0, 1] rfl rfl (by decide)) ?_
    refine bw_st (st1 := [.int q_7]) rfl ?_
    refine bw_if_eq 35 dX5_isHere_28 (by decide) (fun c_8 => ?_) (fun c_8 => ?_)
    · have hf := bw_pos c_8 hf
      refine bw_iconst 0 dX5_isHere_35 (by decide) ?_
      cases Option.some.inj hf
      exact bw_ret rfl rfl (Nat.le_of_ble_eq_true rfl) (Nat.le_of_ble_eq_true rfl) dX5_isHere_36 ⟨rfl, rfl⟩
    · have hf := bw_neg c_8 hf
      refine bw_iconst 1 dX5_isHere_31 (by decide) ?_
      refine bw_goto 36 dX5_isHere_32 (by decide) ?_
      cases Option.some.inj hf
      exact bw_ret rfl rfl (Nat.le_of_ble_eq_true rfl) (Nat.le_of_ble_eq_true rfl) dX5_isHere_36 ⟨rfl, rfl⟩
