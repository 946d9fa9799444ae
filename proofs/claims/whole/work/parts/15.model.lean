/-! The reference. Printed by wip/whole/gen/mkall.py. -/
-- QuarterMasksModel.in
def rmX6_in : Room := { frames := 1, cells := 0, slots := 0, locals := 40 }
theorem kX6_in : yX6_in.cls ≠ "java/lang/invoke/MethodHandle" ∧ yX6_in.cls ≠ "java/lang/invoke/VarHandle" ∧ (parseMethodDescriptor yX6_in.desc).map (fun d => d.parameters.length) = some 3 := by decide +kernel
def wp_Md_in  (a0 : Int64) (a2 : Int64) (a4 : Int64) (Q : Int32 → Prop) : Prop :=
  ((lg_cmp a0 a2) < 0 → (Q 0)) ∧ (¬ (lg_cmp a0 a2) < 0 → ((0 < (lg_cmp a0 a4) → (Q 0)) ∧ (¬ 0 < (lg_cmp a0 a4) → (Q 1))))
set_option maxHeartbeats 4000000 in
theorem c_Md_in (l : Launch) (G : GG) (ws : va_W)  (a0 : Int64) (a2 : Int64) (a4 : Int64) {Q : Int32 → Prop} (h : wp_Md_in a0 a2 a4 Q) : qm_MI l yX6_in wsX6_in rmX6_in G [.long a0, .long a2, .long a4] (ws) (fun (r : Int32) (_ : Unit) => Q r) (fun (_ : Unit) => ws) := by
  refine qm_mkZ (cc := cX6_in) (maxL := 6) (by decide) rfl (Nat.le_of_ble_eq_true rfl) ?_
  intro X C hret
  replace C : qm_C G 6 X cX6_in wsX6_in RX6 := C
  refine v_lv (lv' := [(0, .long a0), (2, .long a2), (4, .long a4)]) rfl ?_
  unfold wp_Md_in at h
  refine v_lload_n C dX6_in_0 rfl 0 rfl ?_
  refine v_lload_n C dX6_in_1 rfl 1 rfl ?_
  refine v_lcmp C dX6_in_2 ?_
  refine v_if_lt C 17 dX6_in_3 (by decide) (fun c_2 => ?_) (fun c_2 => ?_)
  · replace h := h.1 c_2
    refine v_iconst C 0 dX6_in_17 (by decide) ?_
    exact hret _ _ _ 0 () h rfl rfl dX6_in_18
  · replace h := h.2 c_2
    refine v_lload_n C dX6_in_6 rfl 0 rfl ?_
    refine v_lload C dX6_in_7 2 rfl ?_
    refine v_lcmp C dX6_in_9 ?_
    refine v_if_gt C 17 dX6_in_10 (by decide) (fun c_1 => ?_) (fun c_1 => ?_)
    · replace h := h.1 c_1
      refine v_iconst C 0 dX6_in_17 (by decide) ?_
      exact hret _ _ _ 0 () h rfl rfl dX6_in_18
    · replace h := h.2 c_1
      refine v_iconst C 1 dX6_in_13 (by decide) ?_
      refine v_goto C 18 dX6_in_14 (by decide) ?_
      exact hret _ _ _ 1 () h rfl rfl dX6_in_18
-- QuarterMasksModel.isTwo
def rmX6_isTwo : Room := { frames := 2, cells := 0, slots := 0, locals := 65 }
theorem kX6_isTwo : yX6_isTwo.cls ≠ "java/lang/invoke/MethodHandle" ∧ yX6_isTwo.cls ≠ "java/lang/invoke/VarHandle" ∧ (parseMethodDescriptor yX6_isTwo.desc).map (fun d => d.parameters.length) = some 1 := by decide +kernel
def wp_Md_isTwo  (a0 : Int32) (Q : Int32 → Prop) : Prop :=
  wp_Md_in (Int32.toInt64 a0) 0 1 (fun r_1 => narrow .boolean (.int r_1) = .int r_1 ∧ Q r_1)
set_option maxHeartbeats 4000000 in
theorem c_Md_isTwo (l : Launch) (G : GG) (ws : va_W)  (a0 : Int32) {Q : Int32 → Prop} (h : wp_Md_isTwo a0 Q) : qm_MI l yX6_isTwo wsX6_isTwo rmX6_isTwo G [.int a0] (ws) (fun (r : Int32) (_ : Unit) => Q r) (fun (_ : Unit) => ws) := by
  refine qm_mkZ (cc := cX6_isTwo) (maxL := 1) (by decide) rfl (Nat.le_of_ble_eq_true rfl) ?_
  intro X C hret
  replace C : qm_C G 1 X cX6_isTwo wsX6_isTwo RX6 := C
  refine v_lv (lv' := [(0, .int a0)]) rfl ?_
  unfold wp_Md_isTwo at h
  refine v_iload_n C dX6_isTwo_0 rfl 0 rfl ?_
  refine v_i2l C dX6_isTwo_1 ?_
  refine v_lconst C 0 dX6_isTwo_2 (by decide) ?_
  refine v_lconst C 1 dX6_isTwo_3 (by decide) ?_
  refine v_callSi C (c_Md_in l G (ws) (Int32.toInt64 a0) 0 1 h) gX6_isTwo_X6_in rfl kX6_in ⟨rfl, rfl⟩ ⟨Nat.le_of_ble_eq_true rfl, Nat.le_of_ble_eq_true rfl⟩ rfl (Nat.le_of_ble_eq_true rfl) dX6_isTwo_4 (fun r_1 _ h => ?_)
  try dsimp only at h
  exact hret _ _ _ r_1 () h.2 h.1 rfl dX6_isTwo_7
-- QuarterMasksModel.lesser
def rmX6_lesser : Room := { frames := 1, cells := 0, slots := 0, locals := 40 }
theorem kX6_lesser : yX6_lesser.cls ≠ "java/lang/invoke/MethodHandle" ∧ yX6_lesser.cls ≠ "java/lang/invoke/VarHandle" ∧ (parseMethodDescriptor yX6_lesser.desc).map (fun d => d.parameters.length) = some 2 := by decide +kernel
def wp_Md_lesser  (a0 : Int32) (a1 : Int32) (Q : Int32 → Prop) : Prop :=
  (a1 ≤ a0 → (Q a1)) ∧ (¬ a1 ≤ a0 → (Q a0))
set_option maxHeartbeats 4000000 in
theorem c_Md_lesser (l : Launch) (G : GG) (ws : va_W)  (a0 : Int32) (a1 : Int32) {Q : Int32 → Prop} (h : wp_Md_lesser a0 a1 Q) : qm_MI l yX6_lesser wsX6_lesser rmX6_lesser G [.int a0, .int a1] (ws) (fun (r : Int32) (_ : Unit) => Q r) (fun (_ : Unit) => ws) := by
  refine qm_mkI (cc := cX6_lesser) (maxL := 2) (by decide) rfl (Nat.le_of_ble_eq_true rfl) ?_
  intro X C hret
  replace C : qm_C G 2 X cX6_lesser wsX6_lesser RX6 := C
  refine v_lv (lv' := [(0, .int a0), (1, .int a1)]) rfl ?_
  unfold wp_Md_lesser at h
  refine v_iload_n C dX6_lesser_0 rfl 0 rfl ?_
  refine v_iload_n C dX6_lesser_1 rfl 1 rfl ?_
  refine v_icmp_ge C 9 dX6_lesser_2 (by decide) (fun c_1 => ?_) (fun c_1 => ?_)
  · replace h := h.1 c_1
    refine v_iload_n C dX6_lesser_9 rfl 1 rfl ?_
    exact hret _ _ _ a1 () h rfl dX6_lesser_10
  · replace h := h.2 c_1
    refine v_iload_n C dX6_lesser_5 rfl 0 rfl ?_
    refine v_goto C 10 dX6_lesser_6 (by decide) ?_
    exact hret _ _ _ a0 () h rfl dX6_lesser_10
-- QuarterMasksModel.greater
def rmX6_greater : Room := { frames := 1, cells := 0, slots := 0, locals := 40 }
theorem kX6_greater : yX6_greater.cls ≠ "java/lang/invoke/MethodHandle" ∧ yX6_greater.cls ≠ "java/lang/invoke/VarHandle" ∧ (parseMethodDescriptor yX6_greater.desc).map (fun d => d.parameters.length) = some 2 := by decide +kernel
def wp_Md_greater  (a0 : Int32) (a1 : Int32) (Q : Int32 → Prop) : Prop :=
  (a0 ≤ a1 → (Q a1)) ∧ (¬ a0 ≤ a1 → (Q a0))
set_option maxHeartbeats 4000000 in
theorem c_Md_greater (l : Launch) (G : GG) (ws : va_W)  (a0 : Int32) (a1 : Int32) {Q : Int32 → Prop} (h : wp_Md_greater a0 a1 Q) : qm_MI l yX6_greater wsX6_greater rmX6_greater G [.int a0, .int a1] (ws) (fun (r : Int32) (_ : Unit) => Q r) (fun (_ : Unit) => ws) := by
  refine qm_mkI (cc := cX6_greater) (maxL := 2) (by decide) rfl (Nat.le_of_ble_eq_true rfl) ?_
  intro X C hret
  replace C : qm_C G 2 X cX6_greater wsX6_greater RX6 := C
  refine v_lv (lv' := [(0, .int a0), (1, .int a1)]) rfl ?_
  unfold wp_Md_greater at h
  refine v_iload_n C dX6_greater_0 rfl 0 rfl ?_
  refine v_iload_n C dX6_greater_1 rfl 1 rfl ?_
  refine v_icmp_le C 9 dX6_greater_2 (by decide) (fun c_1 => ?_) (fun c_1 => ?_)
  · replace h := h.1 c_1
    refine v_iload_n C dX6_greater_9 rfl 1 rfl ?_
    exact hret _ _ _ a1 () h rfl dX6_greater_10
  · replace h := h.2 c_1
    refine v_iload_n C dX6_greater_5 rfl 0 rfl ?_
    refine v_goto C 10 dX6_greater_6 (by decide) ?_
    exact hret _ _ _ a0 () h rfl dX6_greater_10
-- QuarterMasksModel.isSheet
def rmX6_isSheet : Room := { frames := 2, cells := 0, slots := 0, locals := 65 }
theorem kX6_isSheet : yX6_isSheet.cls ≠ "java/lang/invoke/MethodHandle" ∧ yX6_isSheet.cls ≠ "java/lang/invoke/VarHandle" ∧ (parseMethodDescriptor yX6_isSheet.desc).map (fun d => d.parameters.length) = some 1 := by decide +kernel
theorem mX6_isSheet_w1 : Cond.constantLong RX6 63 (3) ∈ wsX6_isSheet := List.mem_of_getElem? (i := 1) rfl
def wp_Md_isSheet  (a0 : Int32) (Q : Int32 → Prop) : Prop :=
  wp_Md_in (Int32.toInt64 a0) 0 3 (fun r_1 => narrow .boolean (.int r_1) = .int r_1 ∧ Q r_1)
set_option maxHeartbeats 4000000 in
theorem c_Md_isSheet (l : Launch) (G : GG) (ws : va_W)  (a0 : Int32) {Q : Int32 → Prop} (h : wp_Md_isSheet a0 Q) : qm_MI l yX6_isSheet wsX6_isSheet rmX6_isSheet G [.int a0] (ws) (fun (r : Int32) (_ : Unit) => Q r) (fun (_ : Unit) => ws) := by
  refine qm_mkZ (cc := cX6_isSheet) (maxL := 1) (by decide) rfl (Nat.le_of_ble_eq_true rfl) ?_
  intro X C hret
  replace C : qm_C G 1 X cX6_isSheet wsX6_isSheet RX6 := C
  refine v_lv (lv' := [(0, .int a0)]) rfl ?_
  unfold wp_Md_isSheet at h
  refine v_iload_n C dX6_isSheet_0 rfl 0 rfl ?_
  refine v_i2l C dX6_isSheet_1 ?_
  refine v_lconst C 0 dX6_isSheet_2 (by decide) ?_
  refine v_ldc2 C 3 mX6_isSheet_w1 dX6_isSheet_3 ?_
  refine v_callSi C (c_Md_in l G (ws) (Int32.toInt64 a0) 0 3 h) gX6_isSheet_X6_in rfl kX6_in ⟨rfl, rfl⟩ ⟨Nat.le_of_ble_eq_true rfl, Nat.le_of_ble_eq_true rfl⟩ rfl (Nat.le_of_ble_eq_true rfl) dX6_isSheet_6 (fun r_1 _ h => ?_)
  try dsimp only at h
  exact hret _ _ _ r_1 () h.2 h.1 rfl dX6_isSheet_9
-- QuarterMasksModel.isMask
def rmX6_isMask : Room := { frames := 2, cells := 0, slots := 0, locals := 65 }
theorem kX6_isMask : yX6_isMask.cls ≠ "java/lang/invoke/MethodHandle" ∧ yX6_isMask.cls ≠ "java/lang/invoke/VarHandle" ∧ (parseMethodDescriptor yX6_isMask.desc).map (fun d => d.parameters.length) = some 1 := by decide +kernel
theorem mX6_isMask_w1 : Cond.constantLong RX6 63 (3) ∈ wsX6_isMask := List.mem_of_getElem? (i := 1) rfl
def wp_Md_isMask  (a0 : Int32) (Q : Int32 → Prop) : Prop :=
  wp_Md_in (Int32.toInt64 a0) 0 3 (fun r_1 => narrow .boolean (.int r_1) = .int r_1 ∧ Q r_1)
set_option maxHeartbeats 4000000 in
theorem c_Md_isMask (l : Launch) (G : GG) (ws : va_W)  (a0 : Int32) {Q : Int32 → Prop} (h : wp_Md_isMask a0 Q) : qm_MI l yX6_isMask wsX6_isMask rmX6_isMask G [.int a0] (ws) (fun (r : Int32) (_ : Unit) => Q r) (fun (_ : Unit) => ws) := by
  refine qm_mkZ (cc := cX6_isMask) (maxL := 1) (by decide) rfl (Nat.le_of_ble_eq_true rfl) ?_
  intro X C hret
  replace C : qm_C G 1 X cX6_isMask wsX6_isMask RX6 := C
  refine v_lv (lv' := [(0, .int a0)]) rfl ?_
  unfold wp_Md_isMask at h
  refine v_iload_n C dX6_isMask_0 rfl 0 rfl ?_
  refine v_i2l C dX6_isMask_1 ?_
  refine v_lconst C 0 dX6_isMask_2 (by decide) ?_
  refine v_ldc2 C 3 mX6_isMask_w1 dX6_isMask_3 ?_
  refine v_callSi C (c_Md_in l G (ws) (Int32.toInt64 a0) 0 3 h) gX6_isMask_X6_in rfl kX6_in ⟨rfl, rfl⟩ ⟨Nat.le_of_ble_eq_true rfl, Nat.le_of_ble_eq_true rfl⟩ rfl (Nat.le_of_ble_eq_true rfl) dX6_isMask_6 (fun r_1 _ h => ?_)
  try dsimp only at h
  exact hret _ _ _ r_1 () h.2 h.1 rfl dX6_isMask_9
-- QuarterMasksModel.isCell
def rmX6_isCell : Room := { frames := 2, cells := 0, slots := 0, locals := 65 }
theorem kX6_isCell : yX6_isCell.cls ≠ "java/lang/invoke/MethodHandle" ∧ yX6_isCell.cls ≠ "java/lang/invoke/VarHandle" ∧ (parseMethodDescriptor yX6_isCell.desc).map (fun d => d.parameters.length) = some 2 := by decide +kernel
theorem mX6_isCell_w1 : Cond.constantLong RX6 84 (15) ∈ wsX6_isCell := List.mem_of_getElem? (i := 1) rfl
def wp_Md_isCell  (a0 : Int32) (a1 : Int32) (Q : Int32 → Prop) : Prop :=
  wp_Md_in (Int32.toInt64 a0) 0 15 (fun r_1 => (r_1 = 0 → (Q 0)) ∧ (¬ r_1 = 0 → (wp_Md_in (Int32.toInt64 a1) 0 15 (fun r_2 => (r_2 = 0 → (Q 0)) ∧ (¬ r_2 = 0 → (Q 1))))))
set_option maxHeartbeats 4000000 in
theorem c_Md_isCell (l : Launch) (G : GG) (ws : va_W)  (a0 : Int32) (a1 : Int32) {Q : Int32 → Prop} (h : wp_Md_isCell a0 a1 Q) : qm_MI l yX6_isCell wsX6_isCell rmX6_isCell G [.int a0, .int a1] (ws) (fun (r : Int32) (_ : Unit) => Q r) (fun (_ : Unit) => ws) := by
  refine qm_mkZ (cc := cX6_isCell) (maxL := 2) (by decide) rfl (Nat.le_of_ble_eq_true rfl) ?_
  intro X C hret
  replace C : qm_C G 2 X cX6_isCell wsX6_isCell RX6 := C
  refine v_lv (lv' := [(0, .int a0), (1, .int a1)]) rfl ?_
  unfold wp_Md_isCell at h
  refine v_iload_n C dX6_isCell_0 rfl 0 rfl ?_
  refine v_i2l C dX6_isCell_1 ?_
  refine v_lconst C 0 dX6_isCell_2 (by decide) ?_
  refine v_ldc2 C 15 mX6_isCell_w1 dX6_isCell_3 ?_
  refine v_callSi C (c_Md_in l G (ws) (Int32.toInt64 a0) 0 15 h) gX6_isCell_X6_in rfl kX6_in ⟨rfl, rfl⟩ ⟨Nat.le_of_ble_eq_true rfl, Nat.le_of_ble_eq_true rfl⟩ rfl (Nat.le_of_ble_eq_true rfl) dX6_isCell_6 (fun r_1 _ h => ?_)
  try dsimp only at h
  refine v_if_eq C 28 dX6_isCell_9 (by decide) (fun c_2 => ?_) (fun c_2 => ?_)
  · replace h := h.1 c_2
    refine v_iconst C 0 dX6_isCell_28 (by decide) ?_
    exact hret _ _ _ 0 () h rfl rfl dX6_isCell_29
  · replace h := h.2 c_2
    refine v_iload_n C dX6_isCell_12 rfl 1 rfl ?_
    refine v_i2l C dX6_isCell_13 ?_
    refine v_lconst C 0 dX6_isCell_14 (by decide) ?_
    refine v_ldc2 C 15 mX6_isCell_w1 dX6_isCell_15 ?_
    refine v_callSi C (c_Md_in l G (ws) (Int32.toInt64 a1) 0 15 h) gX6_isCell_X6_in rfl kX6_in ⟨rfl, rfl⟩ ⟨Nat.le_of_ble_eq_true rfl, Nat.le_of_ble_eq_true rfl⟩ rfl (Nat.le_of_ble_eq_true rfl) dX6_isCell_18 (fun r_2 _ h => ?_)
    try dsimp only at h
    refine v_if_eq C 28 dX6_isCell_21 (by decide) (fun c_1 => ?_) (fun c_1 => ?_)
    · replace h := h.1 c_1
      refine v_iconst C 0 dX6_isCell_28 (by decide) ?_
      exact hret _ _ _ 0 () h rfl rfl dX6_isCell_29
    · replace h := h.2 c_1
      refine v_iconst C 1 dX6_isCell_24 (by decide) ?_
      refine v_goto C 29 dX6_isCell_25 (by decide) ?_
      exact hret _ _ _ 1 () h rfl rfl dX6_isCell_29
-- QuarterMasksModel.cut
def rmX6_cut : Room := { frames := 1, cells := 0, slots := 0, locals := 40 }
theorem kX6_cut : yX6_cut.cls ≠ "java/lang/invoke/MethodHandle" ∧ yX6_cut.cls ≠ "java/lang/invoke/VarHandle" ∧ (parseMethodDescriptor yX6_cut.desc).map (fun d => d.parameters.length) = some 2 := by decide +kernel
def wp_Md_cut  (a0 : Int32) (a1 : Int32) (Q : Int32 → Prop) : Prop :=
  (a0 = 0 → (Q (jbyte a1))) ∧ (¬ a0 = 0 → ((a0 = 1 → (Q (jshort a1))) ∧ (¬ a0 = 1 → (Q a1))))
set_option maxHeartbeats 4000000 in
theorem c_Md_cut (l : Launch) (G : GG) (ws : va_W)  (a0 : Int32) (a1 : Int32) {Q : Int32 → Prop} (h : wp_Md_cut a0 a1 Q) : qm_MI l yX6_cut wsX6_cut rmX6_cut G [.int a0, .int a1] (ws) (fun (r : Int32) (_ : Unit) => Q r) (fun (_ : Unit) => ws) := by
  refine qm_mkI (cc := cX6_cut) (maxL := 2) (by decide) rfl (Nat.le_of_ble_eq_true rfl) ?_
  intro X C hret
  replace C : qm_C G 2 X cX6_cut wsX6_cut RX6 := C
  refine v_lv (lv' := [(0, .int a0), (1, .int a1)]) rfl ?_
  unfold wp_Md_cut at h
  refine v_iload_n C dX6_cut_0 rfl 0 rfl ?_
  refine v_if_ne C 9 dX6_cut_1 (by decide) (fun c_2 => ?_) (fun c_2 => ?_)
  · replace h := h.2 c_2
    refine v_iload_n C dX6_cut_9 rfl 0 rfl ?_
    refine v_iconst C 1 dX6_cut_10 (by decide) ?_
    refine v_icmp_ne C 19 dX6_cut_11 (by decide) (fun c_1 => ?_) (fun c_1 => ?_)
    · replace h := h.2 c_1
      refine v_iload_n C dX6_cut_19 rfl 1 rfl ?_
      exact hret _ _ _ a1 () h rfl dX6_cut_20
    · replace h := h.1 c_1
      refine v_iload_n C dX6_cut_14 rfl 1 rfl ?_
      refine v_i2s C dX6_cut_15 ?_
      refine v_goto C 20 dX6_cut_16 (by decide) ?_
      exact hret _ _ _ (jshort a1) () h rfl dX6_cut_20
  · replace h := h.1 c_2
    refine v_iload_n C dX6_cut_4 rfl 1 rfl ?_
    refine v_i2b C dX6_cut_5 ?_
    refine v_goto C 20 dX6_cut_6 (by decide) ?_
    exact hret _ _ _ (jbyte a1) () h rfl dX6_cut_20
-- QuarterMasksModel.apart
def rmX6_apart : Room := { frames := 1, cells := 0, slots := 0, locals := 40 }
theorem kX6_apart : yX6_apart.cls ≠ "java/lang/invoke/MethodHandle" ∧ yX6_apart.cls ≠ "java/lang/invoke/VarHandle" ∧ (parseMethodDescriptor yX6_apart.desc).map (fun d => d.parameters.length) = some 2 := by decide +kernel
def wp_Md_apart  (a0 : Int32) (a1 : Int32) (Q : Int32 → Prop) : Prop :=
  (a1 ≤ a0 → (Q (a0 - a1))) ∧ (¬ a1 ≤ a0 → (Q (a1 - a0)))
set_option maxHeartbeats 4000000 in
theorem c_Md_apart (l : Launch) (G : GG) (ws : va_W)  (a0 : Int32) (a1 : Int32) {Q : Int32 → Prop} (h : wp_Md_apart a0 a1 Q) : qm_MI l yX6_apart wsX6_apart rmX6_apart G [.int a0, .int a1] (ws) (fun (r : Int32) (_ : Unit) => Q r) (fun (_ : Unit) => ws) := by
  refine qm_mkI (cc := cX6_apart) (maxL := 2) (by decide) rfl (Nat.le_of_ble_eq_true rfl) ?_
  intro X C hret
  replace C : qm_C G 2 X cX6_apart wsX6_apart RX6 := C
  refine v_lv (lv' := [(0, .int a0), (1, .int a1)]) rfl ?_
  unfold wp_Md_apart at h
  refine v_iload_n C dX6_apart_0 rfl 0 rfl ?_
  refine v_iload_n C dX6_apart_1 rfl 1 rfl ?_
  refine v_icmp_ge C 11 dX6_apart_2 (by decide) (fun c_1 => ?_) (fun c_1 => ?_)
  · replace h := h.1 c_1
    refine v_iload_n C dX6_apart_11 rfl 0 rfl ?_
    refine v_iload_n C dX6_apart_12 rfl 1 rfl ?_
    refine v_isub C dX6_apart_13 ?_
    exact hret _ _ _ (a0 - a1) () h rfl dX6_apart_14
  · replace h := h.2 c_1
    refine v_iload_n C dX6_apart_5 rfl 1 rfl ?_
    refine v_iload_n C dX6_apart_6 rfl 0 rfl ?_
    refine v_isub C dX6_apart_7 ?_
    refine v_goto C 14 dX6_apart_8 (by decide) ?_
    exact hret _ _ _ (a1 - a0) () h rfl dX6_apart_14
-- QuarterMasksModel.deepOf
def rmX6_deepOf : Room := { frames := 1, cells := 0, slots := 0, locals := 40 }
theorem kX6_deepOf : yX6_deepOf.cls ≠ "java/lang/invoke/MethodHandle" ∧ yX6_deepOf.cls ≠ "java/lang/invoke/VarHandle" ∧ (parseMethodDescriptor yX6_deepOf.desc).map (fun d => d.parameters.length) = some 1 := by decide +kernel
def wp_Md_deepOf  (a0 : Int32) (Q : Int32 → Prop) : Prop :=
  (a0 = 16 → (Q 1)) ∧ (¬ a0 = 16 → ((a0 = 8 → (Q 2)) ∧ (¬ a0 = 8 → ((a0 = 4 → (Q 3)) ∧ (¬ a0 = 4 → (Q 4))))))
set_option maxHeartbeats 4000000 in
theorem c_Md_deepOf (l : Launch) (G : GG) (ws : va_W)  (a0 : Int32) {Q : Int32 → Prop} (h : wp_Md_deepOf a0 Q) : qm_MI l yX6_deepOf wsX6_deepOf rmX6_deepOf G [.int a0] (ws) (fun (r : Int32) (_ : Unit) => Q r) (fun (_ : Unit) => ws) := by
  refine qm_mkI (cc := cX6_deepOf) (maxL := 1) (by decide) rfl (Nat.le_of_ble_eq_true rfl) ?_
  intro X C hret
  replace C : qm_C G 1 X cX6_deepOf wsX6_deepOf RX6 := C
  refine v_lv (lv' := [(0, .int a0)]) rfl ?_
  unfold wp_Md_deepOf at h
  refine v_iload_n C dX6_deepOf_0 rfl 0 rfl ?_
  refine v_bipush C 16 dX6_deepOf_1 (by decide) ?_
  refine v_icmp_ne C 10 dX6_deepOf_3 (by decide) (fun c_3 => ?_) (fun c_3 => ?_)
  · replace h := h.2 c_3
    refine v_iload_n C dX6_deepOf_10 rfl 0 rfl ?_
    refine v_bipush C 8 dX6_deepOf_11 (by decide) ?_
    refine v_icmp_ne C 20 dX6_deepOf_13 (by decide) (fun c_2 => ?_) (fun c_2 => ?_)
    · replace h := h.2 c_2
      refine v_iload_n C dX6_deepOf_20 rfl 0 rfl ?_
      refine v_iconst C 4 dX6_deepOf_21 (by decide) ?_
      refine v_icmp_ne C 29 dX6_deepOf_22 (by decide) (fun c_1 => ?_) (fun c_1 => ?_)
      · replace h := h.2 c_1
        refine v_iconst C 4 dX6_deepOf_29 (by decide) ?_
        exact hret _ _ _ 4 () h rfl dX6_deepOf_30
      · replace h := h.1 c_1
        refine v_iconst C 3 dX6_deepOf_25 (by decide) ?_
        refine v_goto C 30 dX6_deepOf_26 (by decide) ?_
        exact hret _ _ _ 3 () h rfl dX6_deepOf_30
    · replace h := h.1 c_2
      refine v_iconst C 2 dX6_deepOf_16 (by decide) ?_
      refine v_goto C 30 dX6_deepOf_17 (by decide) ?_
      exact hret _ _ _ 2 () h rfl dX6_deepOf_30
  · replace h := h.1 c_3
    refine v_iconst C 1 dX6_deepOf_6 (by decide) ?_
    refine v_goto C 30 dX6_deepOf_7 (by decide) ?_
    exact hret _ _ _ 1 () h rfl dX6_deepOf_30
-- QuarterMasksModel.finds
def rmX6_finds : Room := { frames := 1, cells := 0, slots := 0, locals := 40 }
theorem kX6_finds : yX6_finds.cls = RX6 ∧ yX6_finds.cls ≠ "java/lang/invoke/MethodHandle" ∧ yX6_finds.cls ≠ "java/lang/invoke/VarHandle" ∧ (parseMethodDescriptor yX6_finds.desc).map (fun d => d.parameters.length) = some 1 := by decide +kernel
theorem mX6_finds_w1 : Cond.fieldLink RX6 59 "QuarterMasksModel" "latest" "I" ∈ wsX6_finds := List.mem_of_getElem? (i := 1) rfl
theorem iX6_finds_6 : ∀ w ∈ wsX60, w ∈ wsX6_finds := fun w h => List.mem_cons_of_mem _ (List.mem_append_right _ h)
def wp_Md_finds  (a1 : Int32) (Q : Int32 → Int32 → Prop) : Prop :=
  Q ((-10) - a1) a1
set_option maxHeartbeats 4000000 in
theorem c_Md_finds (l : Launch) (G : GG) (ad : Nat → Nat) (forms : IA) (sizes : IA) (items : IA) (moved : IA) (latest : Int32) (rows : IA) (fresh : IA) (oldMask : IA) (oldRows : IA) (known : Int32) (drawn : Int32) (label : IA) (pile : IA) (parts : Int32) (waitX : IA) (waitY : IA) (waitSide : IA) (waits : Int32) (sign : IA) (signs : Int32) (many : IA) (a1 : Int32) {Q : Int32 → Int32 → Prop} (h : wp_Md_finds a1 Q) : qm_MI l yX6_finds wsX6_finds rmX6_finds G [.ref (ad 0), .int a1] (mw G ad forms sizes items moved latest rows fresh oldMask oldRows known drawn label pile parts waitX waitY waitSide waits sign signs many) (fun (r : Int32) (u : Int32) => Q r u) (fun (u : Int32) => mw G ad forms sizes items moved u rows fresh oldMask oldRows known drawn label pile parts waitX waitY waitSide waits sign signs many) := by
  refine qm_mkI (cc := cX6_finds) (maxL := 2) (by decide) rfl (Nat.le_of_ble_eq_true rfl) ?_
  intro X C hret
  replace C : qm_C G 2 X cX6_finds wsX6_finds RX6 := C
  refine v_lv (lv' := [(0, .ref (ad 0)), (1, .int a1)]) rfl ?_
  unfold wp_Md_finds at h
  refine v_aload_n C dX6_finds_0 rfl 0 rfl ?_
  refine v_iload_n C dX6_finds_1 rfl 1 rfl ?_
  refine v_put C iX6_finds_6 tyX6_ok nmX6 0 rfl rfl 4 (by decide) mX6_finds_w1 rfl rfl rfl rfl rfl (Nat.le_of_ble_eq_true rfl) (ws' := mw G ad forms sizes items moved a1 rows fresh oldMask oldRows known drawn label pile parts waitX waitY waitSide waits sign signs many) rfl dX6_finds_2 ?_
  refine v_bipush C (-10) dX6_finds_5 (by decide) ?_
  refine v_iload_n C dX6_finds_7 rfl 1 rfl ?_
  refine v_isub C dX6_finds_8 ?_
  exact hret _ _ _ ((-10) - a1) a1 h rfl dX6_finds_9
-- QuarterMasksModel.sheet
def rmX6_sheet : Room := { frames := 3, cells := 0, slots := 0, locals := 85 }
theorem kX6_sheet : yX6_sheet.cls = RX6 ∧ yX6_sheet.cls ≠ "java/lang/invoke/MethodHandle" ∧ yX6_sheet.cls ≠ "java/lang/invoke/VarHandle" ∧ (parseMethodDescriptor yX6_sheet.desc).map (fun d => d.parameters.length) = some 3 := by decide +kernel
theorem mX6_sheet_w1 : Cond.constantLong RX6 69 (2) ∈ wsX6_sheet := List.mem_of_getElem? (i := 1) rfl
theorem mX6_sheet_w2 : Cond.fieldLink RX6 7 "QuarterMasksModel" "forms" "[I" ∈ wsX6_sheet := List.mem_of_getElem? (i := 2) rfl
theorem iX6_sheet_6 : ∀ w ∈ wsX60, w ∈ wsX6_sheet := fun w h => List.mem_cons_of_mem _ (List.mem_append_right _ h)
theorem mX6_sheet_w3 : Cond.fieldLink RX6 13 "QuarterMasksModel" "sizes" "[I" ∈ wsX6_sheet := List.mem_of_getElem? (i := 3) rfl
theorem mX6_sheet_w4 : Cond.fieldLink RX6 16 "QuarterMasksModel" "items" "[I" ∈ wsX6_sheet := List.mem_of_getElem? (i := 4) rfl
def wl_Md_sheet_55 (latest : Int32) (a1 : Int32) (a3 : Int32) (Q : Int32 → IA → IA → IA → Int32 → Prop) (f_forms_1 : IA) (f_sizes_1 : IA) : Nat → Int32 → IA → Prop
  | 0, _, _ => False
  | n + 1, x4_1, items_1 => (a3 ≤ x4_1 → (Q a3 f_forms_1 f_sizes_1 items_1 latest)) ∧ (¬ a3 ≤ x4_1 → (vp_in ((60 * a1) + x4_1) 240 ∧ (∀ f_items_1 : IA, f_items_1 = upd items_1 ((60 * a1) + x4_1).toNatClampNeg 0 → ((wl_Md_sheet_55 latest a1 a3 Q f_forms_1 f_sizes_1 n) (x4_1 + 1) f_items_1))))
def wp_Md_sheet (forms : IA) (sizes : IA) (items : IA) (latest : Int32) (a1 : Int32) (a2 : Int32) (a3 : Int32) (Q : Int32 → IA → IA → IA → Int32 → Prop) : Prop :=
  wp_Md_isSheet a1 (fun r_1 => (r_1 = 0 → (Q (-2) forms sizes items latest)) ∧ (¬ r_1 = 0 → (wp_Md_in (Int32.toInt64 a2) 0 2 (fun r_2 => (r_2 = 0 → (Q (-2) forms sizes items latest)) ∧ (¬ r_2 = 0 → ((a3 ≤ 60 → ((0 ≤ a3 → (vp_in a1 4 ∧ (∀ f_forms_1 : IA, f_forms_1 = upd forms a1.toNatClampNeg a2 → (vp_in a1 4 ∧ (∀ f_sizes_1 : IA, f_sizes_1 = upd sizes a1.toNatClampNeg a3 → (∃ k_1 : Nat, wl_Md_sheet_55 latest a1 a3 Q f_forms_1 f_sizes_1 k_1 0 items)))))) ∧ (¬ 0 ≤ a3 → (wp_Md_finds 5 (fun r_3 m_latest_1 => Q r_3 forms sizes items m_latest_1))))) ∧ (¬ a3 ≤ 60 → (Q (-2) forms sizes items latest))))))))
set_option maxHeartbeats 4000000 in
theorem c_Md_sheet (l : Launch) (G : GG) (ad : Nat → Nat) (forms : IA) (sizes : IA) (items : IA) (moved : IA) (latest : Int32) (rows : IA) (fresh : IA) (oldMask : IA) (oldRows : IA) (known : Int32) (drawn : Int32) (label : IA) (pile : IA) (parts : Int32) (waitX : IA) (waitY : IA) (waitSide : IA) (waits : Int32) (sign : IA) (signs : Int32) (many : IA) (a1 : Int32) (a2 : Int32) (a3 : Int32) {Q : Int32 → IA → IA → IA → Int32 → Prop} (h : wp_Md_sheet forms sizes items latest a1 a2 a3 Q) : qm_MI l yX6_sheet wsX6_sheet rmX6_sheet G [.ref (ad 0), .int a1, .int a2, .int a3] (mw G ad forms sizes items moved latest rows fresh oldMask oldRows known drawn label pile parts waitX waitY waitSide waits sign signs many) (fun (r : Int32) (u : IA × IA × IA × Int32) => Q r u.1 u.2.1 u.2.2.1 u.2.2.2) (fun (u : IA × IA × IA × Int32) => mw G ad u.1 u.2.1 u.2.2.1 moved u.2.2.2 rows fresh oldMask oldRows known drawn label pile parts waitX waitY waitSide waits sign signs many) := by
  refine qm_mkI (cc := cX6_sheet) (maxL := 5) (by decide) rfl (Nat.le_of_ble_eq_true rfl) ?_
  intro X C hret
  replace C : qm_C G 5 X cX6_sheet wsX6_sheet RX6 := C
  refine v_lv (lv' := [(0, .ref (ad 0)), (1, .int a1), (2, .int a2), (3, .int a3)]) rfl ?_
  unfold wp_Md_sheet at h
  refine v_iload_n C dX6_sheet_0 rfl 1 rfl ?_
  refine v_callSi C (c_Md_isSheet l G (mw G ad forms sizes items moved latest rows fresh oldMask oldRows known drawn label pile parts waitX waitY waitSide waits sign signs many) a1 h) gX6_sheet_X6_isSheet rfl kX6_isSheet ⟨rfl, rfl⟩ ⟨Nat.le_of_ble_eq_true rfl, Nat.le_of_ble_eq_true rfl⟩ rfl (Nat.le_of_ble_eq_true rfl) dX6_sheet_1 (fun r_1 _ h => ?_)
  try dsimp only at h
  refine v_if_eq C 25 dX6_sheet_4 (by decide) (fun c_5 => ?_) (fun c_5 => ?_)
  · replace h := h.1 c_5
    refine v_bipush C (-2) dX6_sheet_25 (by decide) ?_
    exact hret _ _ _ (-2) (forms, sizes, items, latest) h rfl dX6_sheet_27
  · replace h := h.2 c_5
    refine v_iload_n C dX6_sheet_7 rfl 2 rfl ?_
    refine v_i2l C dX6_sheet_8 ?_
    refine v_lconst C 0 dX6_sheet_9 (by decide) ?_
    refine v_ldc2 C 2 mX6_sheet_w1 dX6_sheet_10 ?_
    refine v_callSi C (c_Md_in l G (mw G ad forms sizes items moved latest rows fresh oldMask oldRows known drawn label pile parts waitX waitY waitSide waits sign signs many) (Int32.toInt64 a2) 0 2 h) gX6_sheet_X6_in rfl kX6_in ⟨rfl, rfl⟩ ⟨Nat.le_of_ble_eq_true rfl, Nat.le_of_ble_eq_true rfl⟩ rfl (Nat.le_of_ble_eq_true rfl) dX6_sheet_13 (fun r_2 _ h => ?_)
    try dsimp only at h
    refine v_if_eq C 25 dX6_sheet_16 (by decide) (fun c_4 => ?_) (fun c_4 => ?_)
    · replace h := h.1 c_4
      refine v_bipush C (-2) dX6_sheet_25 (by decide) ?_
      exact hret _ _ _ (-2) (forms, sizes, items, latest) h rfl dX6_sheet_27
    · replace h := h.2 c_4
      refine v_iload_n C dX6_sheet_19 rfl 3 rfl ?_
      refine v_bipush C 60 dX6_sheet_20 (by decide) ?_
      refine v_icmp_le C 28 dX6_sheet_22 (by decide) (fun c_3 => ?_) (fun c_3 => ?_)
      · replace h := h.1 c_3
        refine v_iload_n C dX6_sheet_28 rfl 3 rfl ?_
        refine v_if_ge C 38 dX6_sheet_29 (by decide) (fun c_2 => ?_) (fun c_2 => ?_)
        · replace h := h.1 c_2
          refine v_aload_n C dX6_sheet_38 rfl 0 rfl ?_
          refine v_get C iX6_sheet_6 0 rfl rfl 0 (by decide) mX6_sheet_w2 rfl rfl dX6_sheet_39 ?_
          refine v_iload_n C dX6_sheet_42 rfl 1 rfl ?_
          refine v_iload_n C dX6_sheet_43 rfl 2 rfl ?_
          obtain ⟨hin_1, h⟩ := h
          obtain ⟨f_forms_1, ef_forms_1⟩ : ∃ y : IA, y = upd forms a1.toNatClampNeg a2 := ⟨_, rfl⟩
          replace h := h f_forms_1 ef_forms_1
          refine v_iast C 1 rfl (ws' := mw G ad f_forms_1 sizes items moved latest rows fresh oldMask oldRows known drawn label pile parts waitX waitY waitSide waits sign signs many) (by subst ef_forms_1; exact rfl) hin_1 dX6_sheet_44 ?_
          refine v_aload_n C dX6_sheet_45 rfl 0 rfl ?_
          refine v_get C iX6_sheet_6 0 rfl rfl 1 (by decide) mX6_sheet_w3 rfl rfl dX6_sheet_46 ?_
          refine v_iload_n C dX6_sheet_49 rfl 1 rfl ?_
          refine v_iload_n C dX6_sheet_50 rfl 3 rfl ?_
          obtain ⟨hin_2, h⟩ := h
          obtain ⟨f_sizes_1, ef_sizes_1⟩ : ∃ y : IA, y = upd sizes a1.toNatClampNeg a3 := ⟨_, rfl⟩
          replace h := h f_sizes_1 ef_sizes_1
          refine v_iast C 2 rfl (ws' := mw G ad f_forms_1 f_sizes_1 items moved latest rows fresh oldMask oldRows known drawn label pile parts waitX waitY waitSide waits sign signs many) (by subst ef_sizes_1; exact rfl) hin_2 dX6_sheet_51 ?_
          refine v_iconst C 0 dX6_sheet_52 (by decide) ?_
          refine v_istore C [(4, .int 0), (0, .ref (ad 0)), (1, .int a1), (2, .int a2), (3, .int a3)] dX6_sheet_53 (by decide) rfl ?_
          have hl_1 : ∀ n_1 : Nat, ∀ (x4_1 : Int32) (items_1 : IA), wl_Md_sheet_55 latest a1 a3 Q f_forms_1 f_sizes_1 n_1 x4_1 items_1 → qm_V l G rmX6_sheet 5 X (mw G ad f_forms_1 f_sizes_1 items_1 moved latest rows fresh oldMask oldRows known drawn label pile parts waitX waitY waitSide waits sign signs many) [(4, .int x4_1), (0, .ref (ad 0)), (1, .int a1), (2, .int a2), (3, .int a3)] 55 [] := by
            intro n_1
            induction n_1 with
            | zero =>
              intro x4_1 items_1 h
              exact False.elim h
            | succ n_1 ih_1 =>
              intro x4_1 items_1 h
              rw [wl_Md_sheet_55] at h
              refine v_iload C dX6_sheet_55 0 rfl ?_
              refine v_iload_n C dX6_sheet_57 rfl 4 rfl ?_
              refine v_icmp_ge C 80 dX6_sheet_58 (by decide) (fun c_1 => ?_) (fun c_1 => ?_)
              · replace h := h.1 c_1
                refine v_iload_n C dX6_sheet_80 rfl 4 rfl ?_
                exact hret _ _ _ a3 (f_forms_1, f_sizes_1, items_1, latest) h rfl dX6_sheet_81
              · replace h := h.2 c_1
                refine v_aload_n C dX6_sheet_61 rfl 1 rfl ?_
                refine v_get C iX6_sheet_6 0 rfl rfl 2 (by decide) mX6_sheet_w4 rfl rfl dX6_sheet_62 ?_
                refine v_bipush C 60 dX6_sheet_65 (by decide) ?_
                refine v_iload_n C dX6_sheet_67 rfl 2 rfl ?_
                refine v_imul C dX6_sheet_68 ?_
                refine v_iload C dX6_sheet_69 0 rfl ?_
                refine v_iadd C dX6_sheet_71 ?_
                refine v_iconst C 0 dX6_sheet_72 (by decide) ?_
                obtain ⟨hin_3, h⟩ := h
                obtain ⟨f_items_1, ef_items_1⟩ : ∃ y : IA, y = upd items_1 ((60 * a1) + x4_1).toNatClampNeg 0 := ⟨_, rfl⟩
                replace h := h f_items_1 ef_items_1
                refine v_iast C 3 rfl (ws' := mw G ad f_forms_1 f_sizes_1 f_items_1 moved latest rows fresh oldMask oldRows known drawn label pile parts waitX waitY waitSide waits sign signs many) (by subst ef_items_1; exact rfl) hin_3 dX6_sheet_73 ?_
                refine v_iinc C (x4_1 + 1) 0 [(4, .int (x4_1 + 1)), (0, .ref (ad 0)), (1, .int a1), (2, .int a2), (3, .int a3)] dX6_sheet_74 rfl rfl (by decide) rfl ?_
                refine v_goto C 55 dX6_sheet_77 (by decide) ?_
                exact ih_1 (x4_1 + 1) f_items_1 h
          obtain ⟨k_1, h⟩ := h
          exact hl_1 k_1 0 items h
        · replace h := h.2 c_2
          refine v_aload_n C dX6_sheet_32 rfl 0 rfl ?_
          refine v_iconst C 5 dX6_sheet_33 (by decide) ?_
          refine v_callVi C (c_Md_finds l G ad forms sizes items moved latest rows fresh oldMask oldRows known drawn label pile parts waitX waitY waitSide waits sign signs many 5 h) 0 rfl rfl gX6_sheet_X6_finds rfl kX6_finds ⟨rfl, rfl⟩ ⟨Nat.le_of_ble_eq_true rfl, Nat.le_of_ble_eq_true rfl⟩ rfl (Nat.le_of_ble_eq_true rfl) dX6_sheet_34 (fun r_3 m_latest_1 h => ?_)
          try dsimp only at h
          refine v_world (ws' := mw G ad forms sizes items moved m_latest_1 rows fresh oldMask oldRows known drawn label pile parts waitX waitY waitSide waits sign signs many) rfl ?_
          exact hret _ _ _ r_3 (forms, sizes, items, m_latest_1) h rfl dX6_sheet_37
      · replace h := h.2 c_3
        refine v_bipush C (-2) dX6_sheet_25 (by decide) ?_
        exact hret _ _ _ (-2) (forms, sizes, items, latest) h rfl dX6_sheet_27
-- QuarterMasksModel.lose
def rmX6_lose : Room := { frames := 3, cells := 0, slots := 0, locals := 85 }
theorem kX6_lose : yX6_lose.cls = RX6 ∧ yX6_lose.cls ≠ "java/lang/invoke/MethodHandle" ∧ yX6_lose.cls ≠ "java/lang/invoke/VarHandle" ∧ (parseMethodDescriptor yX6_lose.desc).map (fun d => d.parameters.length) = some 1 := by decide +kernel
theorem mX6_lose_w1 : Cond.fieldLink RX6 7 "QuarterMasksModel" "forms" "[I" ∈ wsX6_lose := List.mem_of_getElem? (i := 1) rfl
theorem iX6_lose_6 : ∀ w ∈ wsX60, w ∈ wsX6_lose := fun w h => List.mem_cons_of_mem _ (List.mem_append_right _ h)
theorem mX6_lose_w2 : Cond.fieldLink RX6 13 "QuarterMasksModel" "sizes" "[I" ∈ wsX6_lose := List.mem_of_getElem? (i := 2) rfl
def wp_Md_lose (forms : IA) (sizes : IA) (latest : Int32) (a1 : Int32) (Q : Int32 → IA → Int32 → Prop) : Prop :=
  wp_Md_isSheet a1 (fun r_1 => (r_1 = 0 → (Q (-2) forms latest)) ∧ (¬ r_1 = 0 → (vp_in a1 4 ∧ ((0 ≤ (forms a1.toNatClampNeg) → (vp_in a1 4 ∧ (∀ f_forms_1 : IA, f_forms_1 = upd forms a1.toNatClampNeg (-1) → (vp_in a1 4 ∧ (Q (sizes a1.toNatClampNeg) f_forms_1 latest))))) ∧ (¬ 0 ≤ (forms a1.toNatClampNeg) → (wp_Md_finds 1 (fun r_2 m_latest_1 => Q r_2 forms m_latest_1)))))))
set_option maxHeartbeats 4000000 in
theorem c_Md_lose (l : Launch) (G : GG) (ad : Nat → Nat) (forms : IA) (sizes : IA) (items : IA) (moved : IA) (latest : Int32) (rows : IA) (fresh : IA) (oldMask : IA) (oldRows : IA) (known : Int32) (drawn : Int32) (label : IA) (pile : IA) (parts : Int32) (waitX : IA) (waitY : IA) (waitSide : IA) (waits : Int32) (sign : IA) (signs : Int32) (many : IA) (a1 : Int32) {Q : Int32 → IA → Int32 → Prop} (h : wp_Md_lose forms sizes latest a1 Q) : qm_MI l yX6_lose wsX6_lose rmX6_lose G [.ref (ad 0), .int a1] (mw G ad forms sizes items moved latest rows fresh oldMask oldRows known drawn label pile parts waitX waitY waitSide waits sign signs many) (fun (r : Int32) (u : IA × Int32) => Q r u.1 u.2) (fun (u : IA × Int32) => mw G ad u.1 sizes items moved u.2 rows fresh oldMask oldRows known drawn label pile parts waitX waitY waitSide waits sign signs many) := by
  refine qm_mkI (cc := cX6_lose) (maxL := 2) (by decide) rfl (Nat.le_of_ble_eq_true rfl) ?_
  intro X C hret
  replace C : qm_C G 2 X cX6_lose wsX6_lose RX6 := C
  refine v_lv (lv' := [(0, .ref (ad 0)), (1, .int a1)]) rfl ?_
  unfold wp_Md_lose at h
  refine v_iload_n C dX6_lose_0 rfl 1 rfl ?_
  refine v_callSi C (c_Md_isSheet l G (mw G ad forms sizes items moved latest rows fresh oldMask oldRows known drawn label pile parts waitX waitY waitSide waits sign signs many) a1 h) gX6_lose_X6_isSheet rfl kX6_isSheet ⟨rfl, rfl⟩ ⟨Nat.le_of_ble_eq_true rfl, Nat.le_of_ble_eq_true rfl⟩ rfl (Nat.le_of_ble_eq_true rfl) dX6_lose_1 (fun r_1 _ h => ?_)
  try dsimp only at h
  refine v_if_ne C 10 dX6_lose_4 (by decide) (fun c_2 => ?_) (fun c_2 => ?_)
  · replace h := h.2 c_2
    refine v_aload_n C dX6_lose_10 rfl 0 rfl ?_
    refine v_get C iX6_lose_6 0 rfl rfl 0 (by decide) mX6_lose_w1 rfl rfl dX6_lose_11 ?_
    refine v_iload_n C dX6_lose_14 rfl 1 rfl ?_
    obtain ⟨hin_1, h⟩ := h
    refine v_iald C 1 rfl hin_1 dX6_lose_15 ?_
    refine v_if_ge C 25 dX6_lose_16 (by decide) (fun c_1 => ?_) (fun c_1 => ?_)
    · replace h := h.1 c_1
      refine v_aload_n C dX6_lose_25 rfl 0 rfl ?_
      refine v_get C iX6_lose_6 0 rfl rfl 0 (by decide) mX6_lose_w1 rfl rfl dX6_lose_26 ?_
      refine v_iload_n C dX6_lose_29 rfl 1 rfl ?_
      refine v_iconst C (-1) dX6_lose_30 (by decide) ?_
      obtain ⟨hin_2, h⟩ := h
      obtain ⟨f_forms_1, ef_forms_1⟩ : ∃ y : IA, y = upd forms a1.toNatClampNeg (-1) := ⟨_, rfl⟩
      replace h := h f_forms_1 ef_forms_1
      refine v_iast C 1 rfl (ws' := mw G ad f_forms_1 sizes items moved latest rows fresh oldMask oldRows known drawn label pile parts waitX waitY waitSide waits sign signs many) (by subst ef_forms_1; exact rfl) hin_2 dX6_lose_31 ?_
      refine v_aload_n C dX6_lose_32 rfl 0 rfl ?_
      refine v_get C iX6_lose_6 0 rfl rfl 1 (by decide) mX6_lose_w2 rfl rfl dX6_lose_33 ?_
      refine v_iload_n C dX6_lose_36 rfl 1 rfl ?_
      obtain ⟨hin_3, h⟩ := h
      refine v_iald C 2 rfl hin_3 dX6_lose_37 ?_
      exact hret _ _ _ (sizes a1.toNatClampNeg) (f_forms_1, latest) h rfl dX6_lose_38
    · replace h := h.2 c_1
      refine v_aload_n C dX6_lose_19 rfl 0 rfl ?_
      refine v_iconst C 1 dX6_lose_20 (by decide) ?_
      refine v_callVi C (c_Md_finds l G ad forms sizes items moved latest rows fresh oldMask oldRows known drawn label pile parts waitX waitY waitSide waits sign signs many 1 h) 0 rfl rfl gX6_lose_X6_finds rfl kX6_finds ⟨rfl, rfl⟩ ⟨Nat.le_of_ble_eq_true rfl, Nat.le_of_ble_eq_true rfl⟩ rfl (Nat.le_of_ble_eq_true rfl) dX6_lose_21 (fun r_2 m_latest_1 h => ?_)
      try dsimp only at h
      refine v_world (ws' := mw G ad forms sizes items moved m_latest_1 rows fresh oldMask oldRows known drawn label pile parts waitX waitY waitSide waits sign signs many) rfl ?_
      exact hret _ _ _ r_2 (forms, m_latest_1) h rfl dX6_lose_24
  · replace h := h.1 c_2
    refine v_bipush C (-2) dX6_lose_7 (by decide) ?_
    exact hret _ _ _ (-2) (forms, latest) h rfl dX6_lose_9
-- QuarterMasksModel.lacks
def rmX6_lacks : Room := { frames := 2, cells := 0, slots := 0, locals := 65 }
theorem kX6_lacks : yX6_lacks.cls = RX6 ∧ yX6_lacks.cls ≠ "java/lang/invoke/MethodHandle" ∧ yX6_lacks.cls ≠ "java/lang/invoke/VarHandle" ∧ (parseMethodDescriptor yX6_lacks.desc).map (fun d => d.parameters.length) = some 3 := by decide +kernel
theorem mX6_lacks_w1 : Cond.fieldLink RX6 7 "QuarterMasksModel" "forms" "[I" ∈ wsX6_lacks := List.mem_of_getElem? (i := 1) rfl
theorem iX6_lacks_6 : ∀ w ∈ wsX60, w ∈ wsX6_lacks := fun w h => List.mem_cons_of_mem _ (List.mem_append_right _ h)
theorem mX6_lacks_w2 : Cond.fieldLink RX6 13 "QuarterMasksModel" "sizes" "[I" ∈ wsX6_lacks := List.mem_of_getElem? (i := 2) rfl
def wp_Md_lacks (forms : IA) (sizes : IA) (latest : Int32) (a1 : Int32) (a2 : Int32) (a3 : Int32) (Q : Int32 → Int32 → Prop) : Prop :=
  vp_in a1 4 ∧ ((0 ≤ (forms a1.toNatClampNeg) → (vp_in a1 4 ∧ (((forms a1.toNatClampNeg) = a2 → (vp_in a1 4 ∧ (wp_Md_in (Int32.toInt64 a3) 0 (Int32.toInt64 ((sizes a1.toNatClampNeg) - 1)) (fun r_1 => (r_1 = 0 → (wp_Md_finds 2 (fun r_2 m_latest_1 => Q r_2 m_latest_1))) ∧ (¬ r_1 = 0 → (Q 0 latest)))))) ∧ (¬ (forms a1.toNatClampNeg) = a2 → (wp_Md_finds 3 (fun r_3 m_latest_2 => Q r_3 m_latest_2)))))) ∧ (¬ 0 ≤ (forms a1.toNatClampNeg) → (wp_Md_finds 1 (fun r_4 m_latest_3 => Q r_4 m_latest_3))))
set_option maxHeartbeats 4000000 in
theorem c_Md_lacks (l : Launch) (G : GG) (ad : Nat → Nat) (forms : IA) (sizes : IA) (items : IA) (moved : IA) (latest : Int32) (rows : IA) (fresh : IA) (oldMask : IA) (oldRows : IA) (known : Int32) (drawn : Int32) (label : IA) (pile : IA) (parts : Int32) (waitX : IA) (waitY : IA) (waitSide : IA) (waits : Int32) (sign : IA) (signs : Int32) (many : IA) (a1 : Int32) (a2 : Int32) (a3 : Int32) {Q : Int32 → Int32 → Prop} (h : wp_Md_lacks forms sizes latest a1 a2 a3 Q) : qm_MI l yX6_lacks wsX6_lacks rmX6_lacks G [.ref (ad 0), .int a1, .int a2, .int a3] (mw G ad forms sizes items moved latest rows fresh oldMask oldRows known drawn label pile parts waitX waitY waitSide waits sign signs many) (fun (r : Int32) (u : Int32) => Q r u) (fun (u : Int32) => mw G ad forms sizes items moved u rows fresh oldMask oldRows known drawn label pile parts waitX waitY waitSide waits sign signs many) := by
  refine qm_mkI (cc := cX6_lacks) (maxL := 4) (by decide) rfl (Nat.le_of_ble_eq_true rfl) ?_
  intro X C hret
  replace C : qm_C G 4 X cX6_lacks wsX6_lacks RX6 := C
  refine v_lv (lv' := [(0, .ref (ad 0)), (1, .int a1), (2, .int a2), (3, .int a3)]) rfl ?_
  unfold wp_Md_lacks at h
  refine v_aload_n C dX6_lacks_0 rfl 0 rfl ?_
  refine v_get C iX6_lacks_6 0 rfl rfl 0 (by decide) mX6_lacks_w1 rfl rfl dX6_lacks_1 ?_
  refine v_iload_n C dX6_lacks_4 rfl 1 rfl ?_
  obtain ⟨hin_1, h⟩ := h
  refine v_iald C 1 rfl hin_1 dX6_lacks_5 ?_
  refine v_if_ge C 15 dX6_lacks_6 (by decide) (fun c_3 => ?_) (fun c_3 => ?_)
  · replace h := h.1 c_3
    refine v_aload_n C dX6_lacks_15 rfl 0 rfl ?_
    refine v_get C iX6_lacks_6 0 rfl rfl 0 (by decide) mX6_lacks_w1 rfl rfl dX6_lacks_16 ?_
    refine v_iload_n C dX6_lacks_19 rfl 1 rfl ?_
    obtain ⟨hin_2, h⟩ := h
    refine v_iald C 1 rfl hin_2 dX6_lacks_20 ?_
    refine v_iload_n C dX6_lacks_21 rfl 2 rfl ?_
    refine v_icmp_eq C 31 dX6_lacks_22 (by decide) (fun c_2 => ?_) (fun c_2 => ?_)
    · replace h := h.1 c_2
      refine v_iload_n C dX6_lacks_31 rfl 3 rfl ?_
      refine v_i2l C dX6_lacks_32 ?_
      refine v_lconst C 0 dX6_lacks_33 (by decide) ?_
      refine v_aload_n C dX6_lacks_34 rfl 0 rfl ?_
      refine v_get C iX6_lacks_6 0 rfl rfl 1 (by decide) mX6_lacks_w2 rfl rfl dX6_lacks_35 ?_
      refine v_iload_n C dX6_lacks_38 rfl 1 rfl ?_
      obtain ⟨hin_3, h⟩ := h
      refine v_iald C 2 rfl hin_3 dX6_lacks_39 ?_
      refine v_iconst C 1 dX6_lacks_40 (by decide) ?_
      refine v_isub C dX6_lacks_41 ?_
      refine v_i2l C dX6_lacks_42 ?_
      refine v_callSi C (c_Md_in l G (mw G ad forms sizes items moved latest rows fresh oldMask oldRows known drawn label pile parts waitX waitY waitSide waits sign signs many) (Int32.toInt64 a3) 0 (Int32.toInt64 ((sizes a1.toNatClampNeg) - 1)) h) gX6_lacks_X6_in rfl kX6_in ⟨rfl, rfl⟩ ⟨Nat.le_of_ble_eq_true rfl, Nat.le_of_ble_eq_true rfl⟩ rfl (Nat.le_of_ble_eq_true rfl) dX6_lacks_43 (fun r_1 _ h => ?_)
      try dsimp only at h
      refine v_if_eq C 53 dX6_lacks_46 (by decide) (fun c_1 => ?_) (fun c_1 => ?_)
      · replace h := h.1 c_1
        refine v_aload_n C dX6_lacks_53 rfl 0 rfl ?_
        refine v_iconst C 2 dX6_lacks_54 (by decide) ?_
        refine v_callVi C (c_Md_finds l G ad forms sizes items moved latest rows fresh oldMask oldRows known drawn label pile parts waitX waitY waitSide waits sign signs many 2 h) 0 rfl rfl gX6_lacks_X6_finds rfl kX6_finds ⟨rfl, rfl⟩ ⟨Nat.le_of_ble_eq_true rfl, Nat.le_of_ble_eq_true rfl⟩ rfl (Nat.le_of_ble_eq_true rfl) dX6_lacks_55 (fun r_2 m_latest_1 h => ?_)
        try dsimp only at h
        refine v_world (ws' := mw G ad forms sizes items moved m_latest_1 rows fresh oldMask oldRows known drawn label pile parts waitX waitY waitSide waits sign signs many) rfl ?_
        exact hret _ _ _ r_2 m_latest_1 h rfl dX6_lacks_58
      · replace h := h.2 c_1
        refine v_iconst C 0 dX6_lacks_49 (by decide) ?_
        refine v_goto C 58 dX6_lacks_50 (by decide) ?_
        exact hret _ _ _ 0 latest h rfl dX6_lacks_58
    · replace h := h.2 c_2
      refine v_aload_n C dX6_lacks_25 rfl 0 rfl ?_
      refine v_iconst C 3 dX6_lacks_26 (by decide) ?_
      refine v_callVi C (c_Md_finds l G ad forms sizes items moved latest rows fresh oldMask oldRows known drawn label pile parts waitX waitY waitSide waits sign signs many 3 h) 0 rfl rfl gX6_lacks_X6_finds rfl kX6_finds ⟨rfl, rfl⟩ ⟨Nat.le_of_ble_eq_true rfl, Nat.le_of_ble_eq_true rfl⟩ rfl (Nat.le_of_ble_eq_true rfl) dX6_lacks_27 (fun r_3 m_latest_2 h => ?_)
      try dsimp only at h
      refine v_world (ws' := mw G ad forms sizes items moved m_latest_2 rows fresh oldMask oldRows known drawn label pile parts waitX waitY waitSide waits sign signs many) rfl ?_
      exact hret _ _ _ r_3 m_latest_2 h rfl dX6_lacks_30
  · replace h := h.2 c_3
    refine v_aload_n C dX6_lacks_9 rfl 0 rfl ?_
    refine v_iconst C 1 dX6_lacks_10 (by decide) ?_
    refine v_callVi C (c_Md_finds l G ad forms sizes items moved latest rows fresh oldMask oldRows known drawn label pile parts waitX waitY waitSide waits sign signs many 1 h) 0 rfl rfl gX6_lacks_X6_finds rfl kX6_finds ⟨rfl, rfl⟩ ⟨Nat.le_of_ble_eq_true rfl, Nat.le_of_ble_eq_true rfl⟩ rfl (Nat.le_of_ble_eq_true rfl) dX6_lacks_11 (fun r_4 m_latest_3 h => ?_)
    try dsimp only at h
    refine v_world (ws' := mw G ad forms sizes items moved m_latest_3 rows fresh oldMask oldRows known drawn label pile parts waitX waitY waitSide waits sign signs many) rfl ?_
    exact hret _ _ _ r_4 m_latest_3 h rfl dX6_lacks_14
-- QuarterMasksModel.lay
def rmX6_lay : Room := { frames := 3, cells := 0, slots := 0, locals := 88 }
theorem kX6_lay : yX6_lay.cls = RX6 ∧ yX6_lay.cls ≠ "java/lang/invoke/MethodHandle" ∧ yX6_lay.cls ≠ "java/lang/invoke/VarHandle" ∧ (parseMethodDescriptor yX6_lay.desc).map (fun d => d.parameters.length) = some 4 := by decide +kernel
theorem mX6_lay_w1 : Cond.constantLong RX6 69 (2) ∈ wsX6_lay := List.mem_of_getElem? (i := 1) rfl
theorem mX6_lay_w2 : Cond.fieldLink RX6 16 "QuarterMasksModel" "items" "[I" ∈ wsX6_lay := List.mem_of_getElem? (i := 2) rfl
theorem iX6_lay_6 : ∀ w ∈ wsX60, w ∈ wsX6_lay := fun w h => List.mem_cons_of_mem _ (List.mem_append_right _ h)
def wp_Md_lay (forms : IA) (sizes : IA) (items : IA) (latest : Int32) (a1 : Int32) (a2 : Int32) (a3 : Int32) (a4 : Int32) (Q : Int32 → IA → Int32 → Prop) : Prop :=
  wp_Md_isSheet a1 (fun r_1 => (r_1 = 0 → (Q (-2) items latest)) ∧ (¬ r_1 = 0 → (wp_Md_in (Int32.toInt64 a2) 0 2 (fun r_2 => (r_2 = 0 → (Q (-2) items latest)) ∧ (¬ r_2 = 0 → (wp_Md_lacks forms sizes latest a1 a2 a3 (fun r_3 m_latest_1 => (r_3 = 0 → (wp_Md_cut a2 a4 (fun r_4 => vp_in ((60 * a1) + a3) 240 ∧ (∀ f_items_1 : IA, f_items_1 = upd items ((60 * a1) + a3).toNatClampNeg r_4 → (Q 1 f_items_1 m_latest_1))))) ∧ (¬ r_3 = 0 → (Q r_3 items m_latest_1)))))))))
set_option maxHeartbeats 4000000 in
theorem c_Md_lay (l : Launch) (G : GG) (ad : Nat → Nat) (forms : IA) (sizes : IA) (items : IA) (moved : IA) (latest : Int32) (rows : IA) (fresh : IA) (oldMask : IA) (oldRows : IA) (known : Int32) (drawn : Int32) (label : IA) (pile : IA) (parts : Int32) (waitX : IA) (waitY : IA) (waitSide : IA) (waits : Int32) (sign : IA) (signs : Int32) (many : IA) (a1 : Int32) (a2 : Int32) (a3 : Int32) (a4 : Int32) {Q : Int32 → IA → Int32 → Prop} (h : wp_Md_lay forms sizes items latest a1 a2 a3 a4 Q) : qm_MI l yX6_lay wsX6_lay rmX6_lay G [.ref (ad 0), .int a1, .int a2, .int a3, .int a4] (mw G ad forms sizes items moved latest rows fresh oldMask oldRows known drawn label pile parts waitX waitY waitSide waits sign signs many) (fun (r : Int32) (u : IA × Int32) => Q r u.1 u.2) (fun (u : IA × Int32) => mw G ad forms sizes u.1 moved u.2 rows fresh oldMask oldRows known drawn label pile parts waitX waitY waitSide waits sign signs many) := by
  refine qm_mkI (cc := cX6_lay) (maxL := 6) (by decide) rfl (Nat.le_of_ble_eq_true rfl) ?_
  intro X C hret
  replace C : qm_C G 6 X cX6_lay wsX6_lay RX6 := C
  refine v_lv (lv' := [(0, .ref (ad 0)), (1, .int a1), (2, .int a2), (3, .int a3), (4, .int a4)]) rfl ?_
  unfold wp_Md_lay at h
  refine v_iload_n C dX6_lay_0 rfl 1 rfl ?_
  refine v_callSi C (c_Md_isSheet l G (mw G ad forms sizes items moved latest rows fresh oldMask oldRows known drawn label pile parts waitX waitY waitSide waits sign signs many) a1 h) gX6_lay_X6_isSheet rfl kX6_isSheet ⟨rfl, rfl⟩ ⟨Nat.le_of_ble_eq_true rfl, Nat.le_of_ble_eq_true rfl⟩ rfl (Nat.le_of_ble_eq_true rfl) dX6_lay_1 (fun r_1 _ h => ?_)
  try dsimp only at h
  refine v_if_eq C 19 dX6_lay_4 (by decide) (fun c_3 => ?_) (fun c_3 => ?_)
  · replace h := h.1 c_3
    refine v_bipush C (-2) dX6_lay_19 (by decide) ?_
    exact hret _ _ _ (-2) (items, latest) h rfl dX6_lay_21
  · replace h := h.2 c_3
    refine v_iload_n C dX6_lay_7 rfl 2 rfl ?_
    refine v_i2l C dX6_lay_8 ?_
    refine v_lconst C 0 dX6_lay_9 (by decide) ?_
    refine v_ldc2 C 2 mX6_lay_w1 dX6_lay_10 ?_
    refine v_callSi C (c_Md_in l G (mw G ad forms sizes items moved latest rows fresh oldMask oldRows known drawn label pile parts waitX waitY waitSide waits sign signs many) (Int32.toInt64 a2) 0 2 h) gX6_lay_X6_in rfl kX6_in ⟨rfl, rfl⟩ ⟨Nat.le_of_ble_eq_true rfl, Nat.le_of_ble_eq_true rfl⟩ rfl (Nat.le_of_ble_eq_true rfl) dX6_lay_13 (fun r_2 _ h => ?_)
    try dsimp only at h
    refine v_if_ne C 22 dX6_lay_16 (by decide) (fun c_2 => ?_) (fun c_2 => ?_)
    · replace h := h.2 c_2
      refine v_aload_n C dX6_lay_22 rfl 0 rfl ?_
      refine v_iload_n C dX6_lay_23 rfl 1 rfl ?_
      refine v_iload_n C dX6_lay_24 rfl 2 rfl ?_
      refine v_iload_n C dX6_lay_25 rfl 3 rfl ?_
      refine v_callVi C (c_Md_lacks l G ad forms sizes items moved latest rows fresh oldMask oldRows known drawn label pile parts waitX waitY waitSide waits sign signs many a1 a2 a3 h) 0 rfl rfl gX6_lay_X6_lacks rfl kX6_lacks ⟨rfl, rfl⟩ ⟨Nat.le_of_ble_eq_true rfl, Nat.le_of_ble_eq_true rfl⟩ rfl (Nat.le_of_ble_eq_true rfl) dX6_lay_26 (fun r_3 m_latest_1 h => ?_)
      try dsimp only at h
      refine v_world (ws' := mw G ad forms sizes items moved m_latest_1 rows fresh oldMask oldRows known drawn label pile parts waitX waitY waitSide waits sign signs many) rfl ?_
      refine v_istore C [(5, .int r_3), (0, .ref (ad 0)), (1, .int a1), (2, .int a2), (3, .int a3), (4, .int a4)] dX6_lay_29 (by decide) rfl ?_
      refine v_iload C dX6_lay_31 0 rfl ?_
      refine v_if_eq C 39 dX6_lay_33 (by decide) (fun c_1 => ?_) (fun c_1 => ?_)
      · replace h := h.1 c_1
        refine v_aload_n C dX6_lay_39 rfl 1 rfl ?_
        refine v_get C iX6_lay_6 0 rfl rfl 2 (by decide) mX6_lay_w2 rfl rfl dX6_lay_40 ?_
        refine v_bipush C 60 dX6_lay_43 (by decide) ?_
        refine v_iload_n C dX6_lay_45 rfl 2 rfl ?_
        refine v_imul C dX6_lay_46 ?_
        refine v_iload_n C dX6_lay_47 rfl 4 rfl ?_
        refine v_iadd C dX6_lay_48 ?_
        refine v_iload_n C dX6_lay_49 rfl 3 rfl ?_
        refine v_iload C dX6_lay_50 5 rfl ?_
        refine v_callSi C (c_Md_cut l G (mw G ad forms sizes items moved m_latest_1 rows fresh oldMask oldRows known drawn label pile parts waitX waitY waitSide waits sign signs many) a2 a4 h) gX6_lay_X6_cut rfl kX6_cut ⟨rfl, rfl⟩ ⟨Nat.le_of_ble_eq_true rfl, Nat.le_of_ble_eq_true rfl⟩ rfl (Nat.le_of_ble_eq_true rfl) dX6_lay_52 (fun r_4 _ h => ?_)
        try dsimp only at h
        obtain ⟨hin_1, h⟩ := h
        obtain ⟨f_items_1, ef_items_1⟩ : ∃ y : IA, y = upd items ((60 * a1) + a3).toNatClampNeg r_4 := ⟨_, rfl⟩
        replace h := h f_items_1 ef_items_1
        refine v_iast C 3 rfl (ws' := mw G ad forms sizes f_items_1 moved m_latest_1 rows fresh oldMask oldRows known drawn label pile parts waitX waitY waitSide waits sign signs many) (by subst ef_items_1; exact rfl) hin_1 dX6_lay_55 ?_
        refine v_iconst C 1 dX6_lay_56 (by decide) ?_
        exact hret _ _ _ 1 (f_items_1, m_latest_1) h rfl dX6_lay_57
      · replace h := h.2 c_1
        refine v_iload C dX6_lay_36 0 rfl ?_
        exact hret _ _ _ r_3 (items, m_latest_1) h rfl dX6_lay_38
    · replace h := h.1 c_2
      refine v_bipush C (-2) dX6_lay_19 (by decide) ?_
      exact hret _ _ _ (-2) (items, latest) h rfl dX6_lay_21
-- QuarterMasksModel.get
def rmX6_get : Room := { frames := 3, cells := 0, slots := 0, locals := 88 }
theorem kX6_get : yX6_get.cls = RX6 ∧ yX6_get.cls ≠ "java/lang/invoke/MethodHandle" ∧ yX6_get.cls ≠ "java/lang/invoke/VarHandle" ∧ (parseMethodDescriptor yX6_get.desc).map (fun d => d.parameters.length) = some 3 := by decide +kernel
theorem mX6_get_w2 : Cond.constant RX6 83 (-2147483648) ∈ wsX6_get := List.mem_of_getElem? (i := 2) rfl
theorem mX6_get_w1 : Cond.constantLong RX6 69 (2) ∈ wsX6_get := List.mem_of_getElem? (i := 1) rfl
theorem mX6_get_w3 : Cond.fieldLink RX6 16 "QuarterMasksModel" "items" "[I" ∈ wsX6_get := List.mem_of_getElem? (i := 3) rfl
theorem iX6_get_6 : ∀ w ∈ wsX60, w ∈ wsX6_get := fun w h => List.mem_cons_of_mem _ (List.mem_append_right _ h)
def wp_Md_get (forms : IA) (sizes : IA) (items : IA) (latest : Int32) (a1 : Int32) (a2 : Int32) (a3 : Int32) (Q : Int32 → Int32 → Prop) : Prop :=
  wp_Md_isSheet a1 (fun r_1 => (r_1 = 0 → (Q (-2147483648) latest)) ∧ (¬ r_1 = 0 → (wp_Md_in (Int32.toInt64 a2) 0 2 (fun r_2 => (r_2 = 0 → (Q (-2147483648) latest)) ∧ (¬ r_2 = 0 → (wp_Md_lacks forms sizes latest a1 a2 a3 (fun r_3 m_latest_1 => (r_3 = 0 → (vp_in ((60 * a1) + a3) 240 ∧ (Q (items ((60 * a1) + a3).toNatClampNeg) m_latest_1))) ∧ (¬ r_3 = 0 → (Q (-2147483648) m_latest_1)))))))))
set_option maxHeartbeats 4000000 in
theorem c_Md_get (l : Launch) (G : GG) (ad : Nat → Nat) (forms : IA) (sizes : IA) (items : IA) (moved : IA) (latest : Int32) (rows : IA) (fresh : IA) (oldMask : IA) (oldRows : IA) (known : Int32) (drawn : Int32) (label : IA) (pile : IA) (parts : Int32) (waitX : IA) (waitY : IA) (waitSide : IA) (waits : Int32) (sign : IA) (signs : Int32) (many : IA) (a1 : Int32) (a2 : Int32) (a3 : Int32) {Q : Int32 → Int32 → Prop} (h : wp_Md_get forms sizes items latest a1 a2 a3 Q) : qm_MI l yX6_get wsX6_get rmX6_get G [.ref (ad 0), .int a1, .int a2, .int a3] (mw G ad forms sizes items moved latest rows fresh oldMask oldRows known drawn label pile parts waitX waitY waitSide waits sign signs many) (fun (r : Int32) (u : Int32) => Q r u) (fun (u : Int32) => mw G ad forms sizes items moved u rows fresh oldMask oldRows known drawn label pile parts waitX waitY waitSide waits sign signs many) := by
  refine qm_mkI (cc := cX6_get) (maxL := 4) (by decide) rfl (Nat.le_of_ble_eq_true rfl) ?_
  intro X C hret
  replace C : qm_C G 4 X cX6_get wsX6_get RX6 := C
  refine v_lv (lv' := [(0, .ref (ad 0)), (1, .int a1), (2, .int a2), (3, .int a3)]) rfl ?_
  unfold wp_Md_get at h
  refine v_iload_n C dX6_get_0 rfl 1 rfl ?_
  refine v_callSi C (c_Md_isSheet l G (mw G ad forms sizes items moved latest rows fresh oldMask oldRows known drawn label pile parts waitX waitY waitSide waits sign signs many) a1 h) gX6_get_X6_isSheet rfl kX6_isSheet ⟨rfl, rfl⟩ ⟨Nat.le_of_ble_eq_true rfl, Nat.le_of_ble_eq_true rfl⟩ rfl (Nat.le_of_ble_eq_true rfl) dX6_get_1 (fun r_1 _ h => ?_)
  try dsimp only at h
  refine v_if_eq C 29 dX6_get_4 (by decide) (fun c_3 => ?_) (fun c_3 => ?_)
  · replace h := h.1 c_3
    refine v_ldc C (-2147483648) mX6_get_w2 dX6_get_29 ?_
    exact hret _ _ _ (-2147483648) latest h rfl dX6_get_31
  · replace h := h.2 c_3
    refine v_iload_n C dX6_get_7 rfl 2 rfl ?_
    refine v_i2l C dX6_get_8 ?_
    refine v_lconst C 0 dX6_get_9 (by decide) ?_
    refine v_ldc2 C 2 mX6_get_w1 dX6_get_10 ?_
    refine v_callSi C (c_Md_in l G (mw G ad forms sizes items moved latest rows fresh oldMask oldRows known drawn label pile parts waitX waitY waitSide waits sign signs many) (Int32.toInt64 a2) 0 2 h) gX6_get_X6_in rfl kX6_in ⟨rfl, rfl⟩ ⟨Nat.le_of_ble_eq_true rfl, Nat.le_of_ble_eq_true rfl⟩ rfl (Nat.le_of_ble_eq_true rfl) dX6_get_13 (fun r_2 _ h => ?_)
    try dsimp only at h
    refine v_if_eq C 29 dX6_get_16 (by decide) (fun c_2 => ?_) (fun c_2 => ?_)
    · replace h := h.1 c_2
      refine v_ldc C (-2147483648) mX6_get_w2 dX6_get_29 ?_
      exact hret _ _ _ (-2147483648) latest h rfl dX6_get_31
    · replace h := h.2 c_2
      refine v_aload_n C dX6_get_19 rfl 0 rfl ?_
      refine v_iload_n C dX6_get_20 rfl 1 rfl ?_
      refine v_iload_n C dX6_get_21 rfl 2 rfl ?_
      refine v_iload_n C dX6_get_22 rfl 3 rfl ?_
      refine v_callVi C (c_Md_lacks l G ad forms sizes items moved latest rows fresh oldMask oldRows known drawn label pile parts waitX waitY waitSide waits sign signs many a1 a2 a3 h) 0 rfl rfl gX6_get_X6_lacks rfl kX6_lacks ⟨rfl, rfl⟩ ⟨Nat.le_of_ble_eq_true rfl, Nat.le_of_ble_eq_true rfl⟩ rfl (Nat.le_of_ble_eq_true rfl) dX6_get_23 (fun r_3 m_latest_1 h => ?_)
      try dsimp only at h
      refine v_world (ws' := mw G ad forms sizes items moved m_latest_1 rows fresh oldMask oldRows known drawn label pile parts waitX waitY waitSide waits sign signs many) rfl ?_
      refine v_if_eq C 32 dX6_get_26 (by decide) (fun c_1 => ?_) (fun c_1 => ?_)
      · replace h := h.1 c_1
        refine v_aload_n C dX6_get_32 rfl 0 rfl ?_
        refine v_get C iX6_get_6 0 rfl rfl 2 (by decide) mX6_get_w3 rfl rfl dX6_get_33 ?_
        refine v_bipush C 60 dX6_get_36 (by decide) ?_
        refine v_iload_n C dX6_get_38 rfl 1 rfl ?_
        refine v_imul C dX6_get_39 ?_
        refine v_iload_n C dX6_get_40 rfl 3 rfl ?_
        refine v_iadd C dX6_get_41 ?_
        obtain ⟨hin_1, h⟩ := h
        refine v_iald C 3 rfl hin_1 dX6_get_42 ?_
        exact hret _ _ _ (items ((60 * a1) + a3).toNatClampNeg) m_latest_1 h rfl dX6_get_43
      · replace h := h.2 c_1
        refine v_ldc C (-2147483648) mX6_get_w2 dX6_get_29 ?_
        exact hret _ _ _ (-2147483648) m_latest_1 h rfl dX6_get_31
-- QuarterMasksModel.copy
def rmX6_copy : Room := { frames := 3, cells := 0, slots := 0, locals := 85 }
theorem kX6_copy : yX6_copy.cls = RX6 ∧ yX6_copy.cls ≠ "java/lang/invoke/MethodHandle" ∧ yX6_copy.cls ≠ "java/lang/invoke/VarHandle" ∧ (parseMethodDescriptor yX6_copy.desc).map (fun d => d.parameters.length) = some 5 := by decide +kernel
theorem mX6_copy_w1 : Cond.fieldLink RX6 7 "QuarterMasksModel" "forms" "[I" ∈ wsX6_copy := List.mem_of_getElem? (i := 1) rfl
theorem iX6_copy_6 : ∀ w ∈ wsX60, w ∈ wsX6_copy := fun w h => List.mem_cons_of_mem _ (List.mem_append_right _ h)
theorem mX6_copy_w2 : Cond.fieldLink RX6 13 "QuarterMasksModel" "sizes" "[I" ∈ wsX6_copy := List.mem_of_getElem? (i := 2) rfl
theorem mX6_copy_w3 : Cond.fieldLink RX6 19 "QuarterMasksModel" "moved" "[I" ∈ wsX6_copy := List.mem_of_getElem? (i := 3) rfl
theorem mX6_copy_w4 : Cond.fieldLink RX6 16 "QuarterMasksModel" "items" "[I" ∈ wsX6_copy := List.mem_of_getElem? (i := 4) rfl
def wj_Md_copy_35 (items : IA) (moved : IA) (Q : Int32 → IA → IA → Int32 → Prop) : Prop :=
  wp_Md_finds 1 (fun r_3 m_latest_1 => Q r_3 items moved m_latest_1)
def wj_Md_copy_111 (items : IA) (moved : IA) (Q : Int32 → IA → IA → Int32 → Prop) : Prop :=
  wp_Md_finds 2 (fun r_4 m_latest_2 => Q r_4 items moved m_latest_2)
def wl_Md_copy_157 (latest : Int32) (a3 : Int32) (a4 : Int32) (a5 : Int32) (Q : Int32 → IA → IA → Int32 → Prop) (moved_2 : IA) : Nat → Int32 → IA → Prop
  | 0, _, _ => False
  | n + 1, x6_3, items_1 => (a5 ≤ x6_3 → (Q 1 items_1 moved_2 latest)) ∧ (¬ a5 ≤ x6_3 → (vp_in x6_3 60 ∧ (vp_in (((60 * a3) + a4) + x6_3) 240 ∧ (∀ f_items_1 : IA, f_items_1 = upd items_1 (((60 * a3) + a4) + x6_3).toNatClampNeg (moved_2 x6_3.toNatClampNeg) → ((wl_Md_copy_157 latest a3 a4 a5 Q moved_2 n) (x6_3 + 1) f_items_1)))))
def wx_Md_copy_154 (items : IA) (latest : Int32) (a3 : Int32) (a4 : Int32) (a5 : Int32) (Q : Int32 → IA → IA → Int32 → Prop) (x6_2 : Int32) (moved_2 : IA) : Prop :=
  ∃ k_1 : Nat, wl_Md_copy_157 latest a3 a4 a5 Q moved_2 k_1 0 items
def wl_Md_copy_120 (items : IA) (a1 : Int32) (a2 : Int32) (a5 : Int32) (Kx_1 : Int32 → IA → Prop) : Nat → Int32 → IA → Prop
  | 0, _, _ => False
  | n + 1, x6_1, moved_1 => (a5 ≤ x6_1 → (Kx_1 x6_1 moved_1)) ∧ (¬ a5 ≤ x6_1 → (vp_in (((60 * a1) + a2) + x6_1) 240 ∧ (vp_in x6_1 60 ∧ (∀ f_moved_1 : IA, f_moved_1 = upd moved_1 x6_1.toNatClampNeg (items (((60 * a1) + a2) + x6_1).toNatClampNeg) → ((wl_Md_copy_120 items a1 a2 a5 Kx_1 n) (x6_1 + 1) f_moved_1)))))
def wp_Md_copy (forms : IA) (sizes : IA) (items : IA) (moved : IA) (latest : Int32) (a1 : Int32) (a2 : Int32) (a3 : Int32) (a4 : Int32) (a5 : Int32) (Q : Int32 → IA → IA → Int32 → Prop) : Prop :=
  wp_Md_isSheet a1 (fun r_1 => (r_1 = 0 → (Q (-2) items moved latest)) ∧ (¬ r_1 = 0 → (wp_Md_isSheet a3 (fun r_2 => (r_2 = 0 → (Q (-2) items moved latest)) ∧ (¬ r_2 = 0 → (vp_in a1 4 ∧ (jn (wj_Md_copy_35 items moved Q) (fun K_1 : Prop => ((forms a1.toNatClampNeg) < 0 → (K_1)) ∧ (¬ (forms a1.toNatClampNeg) < 0 → (vp_in a3 4 ∧ ((0 ≤ (forms a3.toNatClampNeg) → (vp_in a1 4 ∧ (vp_in a3 4 ∧ (((forms a1.toNatClampNeg) = (forms a3.toNatClampNeg) → (jn (wj_Md_copy_111 items moved Q) (fun K_2 : Prop => (a2 < 0 → (K_2)) ∧ (¬ a2 < 0 → ((a4 < 0 → (K_2)) ∧ (¬ a4 < 0 → ((a5 < 0 → (K_2)) ∧ (¬ a5 < 0 → (vp_in a1 4 ∧ ((0 < (lg_cmp ((Int32.toInt64 a2) + (Int32.toInt64 a5)) (Int32.toInt64 (sizes a1.toNatClampNeg))) → (K_2)) ∧ (¬ 0 < (lg_cmp ((Int32.toInt64 a2) + (Int32.toInt64 a5)) (Int32.toInt64 (sizes a1.toNatClampNeg))) → (vp_in a3 4 ∧ (((lg_cmp ((Int32.toInt64 a4) + (Int32.toInt64 a5)) (Int32.toInt64 (sizes a3.toNatClampNeg))) ≤ 0 → (∃ k_2 : Nat, wl_Md_copy_120 items a1 a2 a5 (wx_Md_copy_154 items latest a3 a4 a5 Q) k_2 0 moved)) ∧ (¬ (lg_cmp ((Int32.toInt64 a4) + (Int32.toInt64 a5)) (Int32.toInt64 (sizes a3.toNatClampNeg))) ≤ 0 → (K_2))))))))))))))) ∧ (¬ (forms a1.toNatClampNeg) = (forms a3.toNatClampNeg) → (wp_Md_finds 4 (fun r_5 m_latest_3 => Q r_5 items moved m_latest_3))))))) ∧ (¬ 0 ≤ (forms a3.toNatClampNeg) → (K_1)))))))))))))
set_option maxHeartbeats 4000000 in
theorem c_Md_copy (l : Launch) (G : GG) (ad : Nat → Nat) (forms : IA) (sizes : IA) (items : IA) (moved : IA) (latest : Int32) (rows : IA) (fresh : IA) (oldMask : IA) (oldRows : IA) (known : Int32) (drawn : Int32) (label : IA) (pile : IA) (parts : Int32) (waitX : IA) (waitY : IA) (waitSide : IA) (waits : Int32) (sign : IA) (signs : Int32) (many : IA) (a1 : Int32) (a2 : Int32) (a3 : Int32) (a4 : Int32) (a5 : Int32) {Q : Int32 → IA → IA → Int32 → Prop} (h : wp_Md_copy forms sizes items moved latest a1 a2 a3 a4 a5 Q) : qm_MI l yX6_copy wsX6_copy rmX6_copy G [.ref (ad 0), .int a1, .int a2, .int a3, .int a4, .int a5] (mw G ad forms sizes items moved latest rows fresh oldMask oldRows known drawn label pile parts waitX waitY waitSide waits sign signs many) (fun (r : Int32) (u : IA × IA × Int32) => Q r u.1 u.2.1 u.2.2) (fun (u : IA × IA × Int32) => mw G ad forms sizes u.1 u.2.1 u.2.2 rows fresh oldMask oldRows known drawn label pile parts waitX waitY waitSide waits sign signs many) := by
  refine qm_mkI (cc := cX6_copy) (maxL := 7) (by decide) rfl (Nat.le_of_ble_eq_true rfl) ?_
  intro X C hret
  replace C : qm_C G 7 X cX6_copy wsX6_copy RX6 := C
  refine v_lv (lv' := [(0, .ref (ad 0)), (1, .int a1), (2, .int a2), (3, .int a3), (4, .int a4), (5, .int a5)]) rfl ?_
  unfold wp_Md_copy at h
  refine v_iload_n C dX6_copy_0 rfl 1 rfl ?_
  refine v_callSi C (c_Md_isSheet l G (mw G ad forms sizes items moved latest rows fresh oldMask oldRows known drawn label pile parts waitX waitY waitSide waits sign signs many) a1 h) gX6_copy_X6_isSheet rfl kX6_isSheet ⟨rfl, rfl⟩ ⟨Nat.le_of_ble_eq_true rfl, Nat.le_of_ble_eq_true rfl⟩ rfl (Nat.le_of_ble_eq_true rfl) dX6_copy_1 (fun r_1 _ h => ?_)
  try dsimp only at h
  refine v_if_eq C 14 dX6_copy_4 (by decide) (fun c_12 => ?_) (fun c_12 => ?_)
  · replace h := h.1 c_12
    refine v_bipush C (-2) dX6_copy_14 (by decide) ?_
    exact hret _ _ _ (-2) (items, moved, latest) h rfl dX6_copy_16
  · replace h := h.2 c_12
    refine v_iload_n C dX6_copy_7 rfl 3 rfl ?_
    refine v_callSi C (c_Md_isSheet l G (mw G ad forms sizes items moved latest rows fresh oldMask oldRows known drawn label pile parts waitX waitY waitSide waits sign signs many) a3 h) gX6_copy_X6_isSheet rfl kX6_isSheet ⟨rfl, rfl⟩ ⟨Nat.le_of_ble_eq_true rfl, Nat.le_of_ble_eq_true rfl⟩ rfl (Nat.le_of_ble_eq_true rfl) dX6_copy_8 (fun r_2 _ h => ?_)
    try dsimp only at h
    refine v_if_ne C 17 dX6_copy_11 (by decide) (fun c_11 => ?_) (fun c_11 => ?_)
    · replace h := h.2 c_11
      refine v_aload_n C dX6_copy_17 rfl 0 rfl ?_
      refine v_get C iX6_copy_6 0 rfl rfl 0 (by decide) mX6_copy_w1 rfl rfl dX6_copy_18 ?_
      refine v_iload_n C dX6_copy_21 rfl 1 rfl ?_
      obtain ⟨hin_1, h⟩ := h
      refine v_iald C 1 rfl hin_1 dX6_copy_22 ?_
      have hJ_1 : (wj_Md_copy_35 items moved Q) → qm_V l G rmX6_copy 7 X (mw G ad forms sizes items moved latest rows fresh oldMask oldRows known drawn label pile parts waitX waitY waitSide waits sign signs many) [(0, .ref (ad 0)), (1, .int a1), (2, .int a2), (3, .int a3), (4, .int a4), (5, .int a5)] 35 [] := by
        intro h
        unfold wj_Md_copy_35 at h
        refine v_aload_n C dX6_copy_35 rfl 0 rfl ?_
        refine v_iconst C 1 dX6_copy_36 (by decide) ?_
        refine v_callVi C (c_Md_finds l G ad forms sizes items moved latest rows fresh oldMask oldRows known drawn label pile parts waitX waitY waitSide waits sign signs many 1 h) 0 rfl rfl gX6_copy_X6_finds rfl kX6_finds ⟨rfl, rfl⟩ ⟨Nat.le_of_ble_eq_true rfl, Nat.le_of_ble_eq_true rfl⟩ rfl (Nat.le_of_ble_eq_true rfl) dX6_copy_37 (fun r_3 m_latest_1 h => ?_)
        try dsimp only at h
        refine v_world (ws' := mw G ad forms sizes items moved m_latest_1 rows fresh oldMask oldRows known drawn label pile parts waitX waitY waitSide waits sign signs many) rfl ?_
        exact hret _ _ _ r_3 (items, moved, m_latest_1) h rfl dX6_copy_40
      replace h := jn_use h
      try dsimp only at h
      refine v_if_lt C 35 dX6_copy_23 (by decide) (fun c_10 => ?_) (fun c_10 => ?_)
      · replace h := h.1 c_10
        exact hJ_1 h
      · replace h := h.2 c_10
        refine v_aload_n C dX6_copy_26 rfl 0 rfl ?_
        refine v_get C iX6_copy_6 0 rfl rfl 0 (by decide) mX6_copy_w1 rfl rfl dX6_copy_27 ?_
        refine v_iload_n C dX6_copy_30 rfl 3 rfl ?_
        obtain ⟨hin_2, h⟩ := h
        refine v_iald C 1 rfl hin_2 dX6_copy_31 ?_
        refine v_if_ge C 41 dX6_copy_32 (by decide) (fun c_9 => ?_) (fun c_9 => ?_)
        · replace h := h.1 c_9
          refine v_aload_n C dX6_copy_41 rfl 0 rfl ?_
          refine v_get C iX6_copy_6 0 rfl rfl 0 (by decide) mX6_copy_w1 rfl rfl dX6_copy_42 ?_
          refine v_iload_n C dX6_copy_45 rfl 1 rfl ?_
          obtain ⟨hin_3, h⟩ := h
          refine v_iald C 1 rfl hin_3 dX6_copy_46 ?_
          refine v_aload_n C dX6_copy_47 rfl 0 rfl ?_
          refine v_get C iX6_copy_6 0 rfl rfl 0 (by decide) mX6_copy_w1 rfl rfl dX6_copy_48 ?_
          refine v_iload_n C dX6_copy_51 rfl 3 rfl ?_
          obtain ⟨hin_4, h⟩ := h
          refine v_iald C 1 rfl hin_4 dX6_copy_52 ?_
          refine v_icmp_eq C 62 dX6_copy_53 (by decide) (fun c_8 => ?_) (fun c_8 => ?_)
          · replace h := h.1 c_8
            refine v_iload_n C dX6_copy_62 rfl 2 rfl ?_
            have hJ_2 : (wj_Md_copy_111 items moved Q) → qm_V l G rmX6_copy 7 X (mw G ad forms sizes items moved latest rows fresh oldMask oldRows known drawn label pile parts waitX waitY waitSide waits sign signs many) [(0, .ref (ad 0)), (1, .int a1), (2, .int a2), (3, .int a3), (4, .int a4), (5, .int a5)] 111 [] := by
              intro h
              unfold wj_Md_copy_111 at h
              refine v_aload_n C dX6_copy_111 rfl 0 rfl ?_
              refine v_iconst C 2 dX6_copy_112 (by decide) ?_
              refine v_callVi C (c_Md_finds l G ad forms sizes items moved latest rows fresh oldMask oldRows known drawn label pile parts waitX waitY waitSide waits sign signs many 2 h) 0 rfl rfl gX6_copy_X6_finds rfl kX6_finds ⟨rfl, rfl⟩ ⟨Nat.le_of_ble_eq_true rfl, Nat.le_of_ble_eq_true rfl⟩ rfl (Nat.le_of_ble_eq_true rfl) dX6_copy_113 (fun r_4 m_latest_2 h => ?_)
              try dsimp only at h
              refine v_world (ws' := mw G ad forms sizes items moved m_latest_2 rows fresh oldMask oldRows known drawn label pile parts waitX waitY waitSide waits sign signs many) rfl ?_
              exact hret _ _ _ r_4 (items, moved, m_latest_2) h rfl dX6_copy_116
            replace h := jn_use h
            try dsimp only at h
            refine v_if_lt C 111 dX6_copy_63 (by decide) (fun c_7 => ?_) (fun c_7 => ?_)
            · replace h := h.1 c_7
              exact hJ_2 h
            · replace h := h.2 c_7
              refine v_iload C dX6_copy_66 4 rfl ?_
              refine v_if_lt C 111 dX6_copy_68 (by decide) (fun c_6 => ?_) (fun c_6 => ?_)
              · replace h := h.1 c_6
                exact hJ_2 h
              · replace h := h.2 c_6
                refine v_iload C dX6_copy_71 5 rfl ?_
                refine v_if_lt C 111 dX6_copy_73 (by decide) (fun c_5 => ?_) (fun c_5 => ?_)
                · replace h := h.1 c_5
                  exact hJ_2 h
                · replace h := h.2 c_5
                  refine v_iload_n C dX6_copy_76 rfl 2 rfl ?_
                  refine v_i2l C dX6_copy_77 ?_
                  refine v_iload C dX6_copy_78 5 rfl ?_
                  refine v_i2l C dX6_copy_80 ?_
                  refine v_ladd C dX6_copy_81 ?_
                  refine v_aload_n C dX6_copy_82 rfl 0 rfl ?_
                  refine v_get C iX6_copy_6 0 rfl rfl 1 (by decide) mX6_copy_w2 rfl rfl dX6_copy_83 ?_
                  refine v_iload_n C dX6_copy_86 rfl 1 rfl ?_
                  obtain ⟨hin_5, h⟩ := h
                  refine v_iald C 2 rfl hin_5 dX6_copy_87 ?_
                  refine v_i2l C dX6_copy_88 ?_
                  refine v_lcmp C dX6_copy_89 ?_
                  refine v_if_gt C 111 dX6_copy_90 (by decide) (fun c_4 => ?_) (fun c_4 => ?_)
                  · replace h := h.1 c_4
                    exact hJ_2 h
                  · replace h := h.2 c_4
                    refine v_iload C dX6_copy_93 4 rfl ?_
                    refine v_i2l C dX6_copy_95 ?_
                    refine v_iload C dX6_copy_96 5 rfl ?_
                    refine v_i2l C dX6_copy_98 ?_
                    refine v_ladd C dX6_copy_99 ?_
                    refine v_aload_n C dX6_copy_100 rfl 0 rfl ?_
                    refine v_get C iX6_copy_6 0 rfl rfl 1 (by decide) mX6_copy_w2 rfl rfl dX6_copy_101 ?_
                    refine v_iload_n C dX6_copy_104 rfl 3 rfl ?_
                    obtain ⟨hin_6, h⟩ := h
                    refine v_iald C 2 rfl hin_6 dX6_copy_105 ?_
                    refine v_i2l C dX6_copy_106 ?_
                    refine v_lcmp C dX6_copy_107 ?_
                    refine v_if_le C 117 dX6_copy_108 (by decide) (fun c_3 => ?_) (fun c_3 => ?_)
                    · replace h := h.1 c_3
                      refine v_iconst C 0 dX6_copy_117 (by decide) ?_
                      refine v_istore C [(6, .int 0), (0, .ref (ad 0)), (1, .int a1), (2, .int a2), (3, .int a3), (4, .int a4), (5, .int a5)] dX6_copy_118 (by decide) rfl ?_
                      have hx_1 : ∀ (x6_2 : Int32) (moved_2 : IA), (wx_Md_copy_154 items latest a3 a4 a5 Q) x6_2 moved_2 → qm_V l G rmX6_copy 7 X (mw G ad forms sizes items moved_2 latest rows fresh oldMask oldRows known drawn label pile parts waitX waitY waitSide waits sign signs many) [(6, .int x6_2), (0, .ref (ad 0)), (1, .int a1), (2, .int a2), (3, .int a3), (4, .int a4), (5, .int a5)] 154 [] := by
                        intro x6_2 moved_2 h
                        unfold wx_Md_copy_154 at h
                        refine v_iconst C 0 dX6_copy_154 (by decide) ?_
                        refine v_istore C [(6, .int 0), (0, .ref (ad 0)), (1, .int a1), (2, .int a2), (3, .int a3), (4, .int a4), (5, .int a5)] dX6_copy_155 (by decide) rfl ?_
                        have hl_1 : ∀ n_1 : Nat, ∀ (x6_3 : Int32) (items_1 : IA), wl_Md_copy_157 latest a3 a4 a5 Q moved_2 n_1 x6_3 items_1 → qm_V l G rmX6_copy 7 X (mw G ad forms sizes items_1 moved_2 latest rows fresh oldMask oldRows known drawn label pile parts waitX waitY waitSide waits sign signs many) [(6, .int x6_3), (0, .ref (ad 0)), (1, .int a1), (2, .int a2), (3, .int a3), (4, .int a4), (5, .int a5)] 157 [] := by
                          intro n_1
                          induction n_1 with
                          | zero =>
                            intro x6_3 items_1 h
                            exact False.elim h
                          | succ n_1 ih_1 =>
                            intro x6_3 items_1 h
                            rw [wl_Md_copy_157] at h
                            refine v_iload C dX6_copy_157 0 rfl ?_
                            refine v_iload C dX6_copy_159 6 rfl ?_
                            refine v_icmp_ge C 192 dX6_copy_161 (by decide) (fun c_1 => ?_) (fun c_1 => ?_)
                            · replace h := h.1 c_1
                              refine v_iconst C 1 dX6_copy_192 (by decide) ?_
                              exact hret _ _ _ 1 (items_1, moved_2, latest) h rfl dX6_copy_193
                            · replace h := h.2 c_1
                              refine v_aload_n C dX6_copy_164 rfl 1 rfl ?_
                              refine v_get C iX6_copy_6 0 rfl rfl 2 (by decide) mX6_copy_w4 rfl rfl dX6_copy_165 ?_
                              refine v_bipush C 60 dX6_copy_168 (by decide) ?_
                              refine v_iload_n C dX6_copy_170 rfl 4 rfl ?_
                              refine v_imul C dX6_copy_171 ?_
                              refine v_iload C dX6_copy_172 5 rfl ?_
                              refine v_iadd C dX6_copy_174 ?_
                              refine v_iload C dX6_copy_175 0 rfl ?_
                              refine v_iadd C dX6_copy_177 ?_
                              refine v_aload_n C dX6_copy_178 rfl 1 rfl ?_
                              refine v_get C iX6_copy_6 0 rfl rfl 3 (by decide) mX6_copy_w3 rfl rfl dX6_copy_179 ?_
                              refine v_iload C dX6_copy_182 0 rfl ?_
                              obtain ⟨hin_7, h⟩ := h
                              refine v_iald C 4 rfl hin_7 dX6_copy_184 ?_
                              obtain ⟨hin_8, h⟩ := h
                              obtain ⟨f_items_1, ef_items_1⟩ : ∃ y : IA, y = upd items_1 (((60 * a3) + a4) + x6_3).toNatClampNeg (moved_2 x6_3.toNatClampNeg) := ⟨_, rfl⟩
                              replace h := h f_items_1 ef_items_1
                              refine v_iast C 3 rfl (ws' := mw G ad forms sizes f_items_1 moved_2 latest rows fresh oldMask oldRows known drawn label pile parts waitX waitY waitSide waits sign signs many) (by subst ef_items_1; exact rfl) hin_8 dX6_copy_185 ?_
                              refine v_iinc C (x6_3 + 1) 0 [(6, .int (x6_3 + 1)), (0, .ref (ad 0)), (1, .int a1), (2, .int a2), (3, .int a3), (4, .int a4), (5, .int a5)] dX6_copy_186 rfl rfl (by decide) rfl ?_
                              refine v_goto C 157 dX6_copy_189 (by decide) ?_
                              exact ih_1 (x6_3 + 1) f_items_1 h
                        obtain ⟨k_1, h⟩ := h
                        exact hl_1 k_1 0 items h
                      have hl_2 : ∀ n_2 : Nat, ∀ (x6_1 : Int32) (moved_1 : IA), wl_Md_copy_120 items a1 a2 a5 (wx_Md_copy_154 items latest a3 a4 a5 Q) n_2 x6_1 moved_1 → qm_V l G rmX6_copy 7 X (mw G ad forms sizes items moved_1 latest rows fresh oldMask oldRows known drawn label pile parts waitX waitY waitSide waits sign signs many) [(6, .int x6_1), (0, .ref (ad 0)), (1, .int a1), (2, .int a2), (3, .int a3), (4, .int a4), (5, .int a5)] 120 [] := by
                        intro n_2
                        induction n_2 with
                        | zero =>
                          intro x6_1 moved_1 h
                          exact False.elim h
                        | succ n_2 ih_2 =>
                          intro x6_1 moved_1 h
                          rw [wl_Md_copy_120] at h
                          refine v_iload C dX6_copy_120 0 rfl ?_
                          refine v_iload C dX6_copy_122 6 rfl ?_
                          refine v_icmp_ge C 154 dX6_copy_124 (by decide) (fun c_2 => ?_) (fun c_2 => ?_)
                          · replace h := h.1 c_2
                            exact hx_1 x6_1 moved_1 h
                          · replace h := h.2 c_2
                            refine v_aload_n C dX6_copy_127 rfl 1 rfl ?_
                            refine v_get C iX6_copy_6 0 rfl rfl 3 (by decide) mX6_copy_w3 rfl rfl dX6_copy_128 ?_
                            refine v_iload C dX6_copy_131 0 rfl ?_
                            refine v_aload_n C dX6_copy_133 rfl 1 rfl ?_
                            refine v_get C iX6_copy_6 0 rfl rfl 2 (by decide) mX6_copy_w4 rfl rfl dX6_copy_134 ?_
                            refine v_bipush C 60 dX6_copy_137 (by decide) ?_
                            refine v_iload_n C dX6_copy_139 rfl 2 rfl ?_
                            refine v_imul C dX6_copy_140 ?_
                            refine v_iload_n C dX6_copy_141 rfl 3 rfl ?_
                            refine v_iadd C dX6_copy_142 ?_
                            refine v_iload C dX6_copy_143 0 rfl ?_
                            refine v_iadd C dX6_copy_145 ?_
                            obtain ⟨hin_9, h⟩ := h
                            refine v_iald C 3 rfl hin_9 dX6_copy_146 ?_
                            obtain ⟨hin_10, h⟩ := h
                            obtain ⟨f_moved_1, ef_moved_1⟩ : ∃ y : IA, y = upd moved_1 x6_1.toNatClampNeg (items (((60 * a1) + a2) + x6_1).toNatClampNeg) := ⟨_, rfl⟩
                            replace h := h f_moved_1 ef_moved_1
                            refine v_iast C 4 rfl (ws' := mw G ad forms sizes items f_moved_1 latest rows fresh oldMask oldRows known drawn label pile parts waitX waitY waitSide waits sign signs many) (by subst ef_moved_1; exact rfl) hin_10 dX6_copy_147 ?_
                            refine v_iinc C (x6_1 + 1) 0 [(6, .int (x6_1 + 1)), (0, .ref (ad 0)), (1, .int a1), (2, .int a2), (3, .int a3), (4, .int a4), (5, .int a5)] dX6_copy_148 rfl rfl (by decide) rfl ?_
                            refine v_goto C 120 dX6_copy_151 (by decide) ?_
                            exact ih_2 (x6_1 + 1) f_moved_1 h
                      obtain ⟨k_2, h⟩ := h
                      exact hl_2 k_2 0 moved h
                    · replace h := h.2 c_3
                      exact hJ_2 h
          · replace h := h.2 c_8
            refine v_aload_n C dX6_copy_56 rfl 0 rfl ?_
            refine v_iconst C 4 dX6_copy_57 (by decide) ?_
            refine v_callVi C (c_Md_finds l G ad forms sizes items moved latest rows fresh oldMask oldRows known drawn label pile parts waitX waitY waitSide waits sign signs many 4 h) 0 rfl rfl gX6_copy_X6_finds rfl kX6_finds ⟨rfl, rfl⟩ ⟨Nat.le_of_ble_eq_true rfl, Nat.le_of_ble_eq_true rfl⟩ rfl (Nat.le_of_ble_eq_true rfl) dX6_copy_58 (fun r_5 m_latest_3 h => ?_)
            try dsimp only at h
            refine v_world (ws' := mw G ad forms sizes items moved m_latest_3 rows fresh oldMask oldRows known drawn label pile parts waitX waitY waitSide waits sign signs many) rfl ?_
            exact hret _ _ _ r_5 (items, moved, m_latest_3) h rfl dX6_copy_61
        · replace h := h.2 c_9
          exact hJ_1 h
    · replace h := h.1 c_11
      refine v_bipush C (-2) dX6_copy_14 (by decide) ?_
      exact hret _ _ _ (-2) (items, moved, latest) h rfl dX6_copy_16
-- QuarterMasksModel.dark
def rmX6_dark : Room := { frames := 3, cells := 0, slots := 0, locals := 86 }
theorem kX6_dark : yX6_dark.cls = RX6 ∧ yX6_dark.cls ≠ "java/lang/invoke/MethodHandle" ∧ yX6_dark.cls ≠ "java/lang/invoke/VarHandle" ∧ (parseMethodDescriptor yX6_dark.desc).map (fun d => d.parameters.length) = some 3 := by decide +kernel
theorem mX6_dark_w1 : Cond.fieldLink RX6 22 "QuarterMasksModel" "rows" "[I" ∈ wsX6_dark := List.mem_of_getElem? (i := 1) rfl
theorem iX6_dark_6 : ∀ w ∈ wsX60, w ∈ wsX6_dark := fun w h => List.mem_cons_of_mem _ (List.mem_append_right _ h)
def wp_Md_dark (rows : IA) (a1 : Int32) (a2 : Int32) (a3 : Int32) (Q : Int32 → Prop) : Prop :=
  wp_Md_isCell a2 a3 (fun r_1 => (r_1 = 0 → (Q 0)) ∧ (¬ r_1 = 0 → (vp_in ((16 * a1) + a3) 64 ∧ (Q ((jshr (rows ((16 * a1) + a3).toNatClampNeg) a2) &&& 1)))))
set_option maxHeartbeats 4000000 in
theorem c_Md_dark (l : Launch) (G : GG) (ad : Nat → Nat) (forms : IA) (sizes : IA) (items : IA) (moved : IA) (latest : Int32) (rows : IA) (fresh : IA) (oldMask : IA) (oldRows : IA) (known : Int32) (drawn : Int32) (label : IA) (pile : IA) (parts : Int32) (waitX : IA) (waitY : IA) (waitSide : IA) (waits : Int32) (sign : IA) (signs : Int32) (many : IA) (a1 : Int32) (a2 : Int32) (a3 : Int32) {Q : Int32 → Prop} (h : wp_Md_dark rows a1 a2 a3 Q) : qm_MI l yX6_dark wsX6_dark rmX6_dark G [.ref (ad 0), .int a1, .int a2, .int a3] (mw G ad forms sizes items moved latest rows fresh oldMask oldRows known drawn label pile parts waitX waitY waitSide waits sign signs many) (fun (r : Int32) (_ : Unit) => Q r) (fun (_ : Unit) => mw G ad forms sizes items moved latest rows fresh oldMask oldRows known drawn label pile parts waitX waitY waitSide waits sign signs many) := by
  refine qm_mkI (cc := cX6_dark) (maxL := 4) (by decide) rfl (Nat.le_of_ble_eq_true rfl) ?_
  intro X C hret
  replace C : qm_C G 4 X cX6_dark wsX6_dark RX6 := C
  refine v_lv (lv' := [(0, .ref (ad 0)), (1, .int a1), (2, .int a2), (3, .int a3)]) rfl ?_
  unfold wp_Md_dark at h
  refine v_iload_n C dX6_dark_0 rfl 2 rfl ?_
  refine v_iload_n C dX6_dark_1 rfl 3 rfl ?_
  refine v_callSi C (c_Md_isCell l G (mw G ad forms sizes items moved latest rows fresh oldMask oldRows known drawn label pile parts waitX waitY waitSide waits sign signs many) a2 a3 h) gX6_dark_X6_isCell rfl kX6_isCell ⟨rfl, rfl⟩ ⟨Nat.le_of_ble_eq_true rfl, Nat.le_of_ble_eq_true rfl⟩ rfl (Nat.le_of_ble_eq_true rfl) dX6_dark_2 (fun r_1 _ h => ?_)
  try dsimp only at h
  refine v_if_eq C 26 dX6_dark_5 (by decide) (fun c_1 => ?_) (fun c_1 => ?_)
  · replace h := h.1 c_1
    refine v_iconst C 0 dX6_dark_26 (by decide) ?_
    exact hret _ _ _ 0 () h rfl dX6_dark_27
  · replace h := h.2 c_1
    refine v_aload_n C dX6_dark_8 rfl 0 rfl ?_
    refine v_get C iX6_dark_6 0 rfl rfl 5 (by decide) mX6_dark_w1 rfl rfl dX6_dark_9 ?_
    refine v_bipush C 16 dX6_dark_12 (by decide) ?_
    refine v_iload_n C dX6_dark_14 rfl 1 rfl ?_
    refine v_imul C dX6_dark_15 ?_
    refine v_iload_n C dX6_dark_16 rfl 3 rfl ?_
    refine v_iadd C dX6_dark_17 ?_
    obtain ⟨hin_1, h⟩ := h
    refine v_iald C 5 rfl hin_1 dX6_dark_18 ?_
    refine v_iload_n C dX6_dark_19 rfl 2 rfl ?_
    refine v_ishr C dX6_dark_20 ?_
    refine v_iconst C 1 dX6_dark_21 (by decide) ?_
    refine v_iand C dX6_dark_22 ?_
    refine v_goto C 27 dX6_dark_23 (by decide) ?_
    exact hret _ _ _ ((jshr (rows ((16 * a1) + a3).toNatClampNeg) a2) &&& 1) () h rfl dX6_dark_27
-- QuarterMasksModel.darkOf
def rmX6_darkOf : Room := { frames := 4, cells := 0, slots := 0, locals := 109 }
theorem kX6_darkOf : yX6_darkOf.cls = RX6 ∧ yX6_darkOf.cls ≠ "java/lang/invoke/MethodHandle" ∧ yX6_darkOf.cls ≠ "java/lang/invoke/VarHandle" ∧ (parseMethodDescriptor yX6_darkOf.desc).map (fun d => d.parameters.length) = some 1 := by decide +kernel
def wl_Md_darkOf_4 (rows : IA) (a1 : Int32) (Q : Int32 → Prop) : Nat → Int32 → Int32 → Prop
  | 0, _, _ => False
  | n + 1, x3_1, x2_1 => (256 ≤ x3_1 → (Q x2_1)) ∧ (¬ 256 ≤ x3_1 → (wp_Md_dark rows a1 (jrem x3_1 16) (x3_1 / 16) (fun r_1 => ∀ x2_2 : Int32, x2_2 = (x2_1 + r_1) → ((wl_Md_darkOf_4 rows a1 Q n) (x3_1 + 1) x2_2))))
def wp_Md_darkOf (rows : IA) (a1 : Int32) (Q : Int32 → Prop) : Prop :=
  ∃ k_1 : Nat, wl_Md_darkOf_4 rows a1 Q k_1 0 0
set_option maxHeartbeats 4000000 in
theorem c_Md_darkOf (l : Launch) (G : GG) (ad : Nat → Nat) (forms : IA) (sizes : IA) (items : IA) (moved : IA) (latest : Int32) (rows : IA) (fresh : IA) (oldMask : IA) (oldRows : IA) (known : Int32) (drawn : Int32) (label : IA) (pile : IA) (parts : Int32) (waitX : IA) (waitY : IA) (waitSide : IA) (waits : Int32) (sign : IA) (signs : Int32) (many : IA) (a1 : Int32) {Q : Int32 → Prop} (h : wp_Md_darkOf rows a1 Q) : qm_MI l yX6_darkOf wsX6_darkOf rmX6_darkOf G [.ref (ad 0), .int a1] (mw G ad forms sizes items moved latest rows fresh oldMask oldRows known drawn label pile parts waitX waitY waitSide waits sign signs many) (fun (r : Int32) (_ : Unit) => Q r) (fun (_ : Unit) => mw G ad forms sizes items moved latest rows fresh oldMask oldRows known drawn label pile parts waitX waitY waitSide waits sign signs many) := by
  refine qm_mkI (cc := cX6_darkOf) (maxL := 4) (by decide) rfl (Nat.le_of_ble_eq_true rfl) ?_
  intro X C hret
  replace C : qm_C G 4 X cX6_darkOf wsX6_darkOf RX6 := C
  refine v_lv (lv' := [(0, .ref (ad 0)), (1, .int a1)]) rfl ?_
  unfold wp_Md_darkOf at h
  refine v_iconst C 0 dX6_darkOf_0 (by decide) ?_
  refine v_istore_n C [(2, .int 0), (0, .ref (ad 0)), (1, .int a1)] dX6_darkOf_1 rfl (by decide) rfl ?_
  refine v_iconst C 0 dX6_darkOf_2 (by decide) ?_
  refine v_istore_n C [(3, .int 0), (2, .int 0), (0, .ref (ad 0)), (1, .int a1)] dX6_darkOf_3 rfl (by decide) rfl ?_
  have hl_1 : ∀ n_1 : Nat, ∀ (x3_1 : Int32) (x2_1 : Int32), wl_Md_darkOf_4 rows a1 Q n_1 x3_1 x2_1 → qm_V l G rmX6_darkOf 4 X (mw G ad forms sizes items moved latest rows fresh oldMask oldRows known drawn label pile parts waitX waitY waitSide waits sign signs many) [(3, .int x3_1), (2, .int x2_1), (0, .ref (ad 0)), (1, .int a1)] 4 [] := by
    intro n_1
    induction n_1 with
    | zero =>
      intro x3_1 x2_1 h
      exact False.elim h
    | succ n_1 ih_1 =>
      intro x3_1 x2_1 h
      rw [wl_Md_darkOf_4] at h
      refine v_iload_n C dX6_darkOf_4 rfl 0 rfl ?_
      refine v_sipush C 256 dX6_darkOf_5 (by decide) ?_
      refine v_icmp_ge C 33 dX6_darkOf_8 (by decide) (fun c_1 => ?_) (fun c_1 => ?_)
      · replace h := h.1 c_1
        refine v_iload_n C dX6_darkOf_33 rfl 1 rfl ?_
        exact hret _ _ _ x2_1 () h rfl dX6_darkOf_34
      · replace h := h.2 c_1
        refine v_iload_n C dX6_darkOf_11 rfl 1 rfl ?_
        refine v_aload_n C dX6_darkOf_12 rfl 2 rfl ?_
        refine v_iload_n C dX6_darkOf_13 rfl 3 rfl ?_
        refine v_iload_n C dX6_darkOf_14 rfl 0 rfl ?_
        refine v_bipush C 16 dX6_darkOf_15 (by decide) ?_
        refine v_irem C dX6_darkOf_17 (by decide) ?_
        refine v_iload_n C dX6_darkOf_18 rfl 0 rfl ?_
        refine v_bipush C 16 dX6_darkOf_19 (by decide) ?_
        refine v_idiv C dX6_darkOf_21 (by decide) ?_
        refine v_callVi C (c_Md_dark l G ad forms sizes items moved latest rows fresh oldMask oldRows known drawn label pile parts waitX waitY waitSide waits sign signs many a1 (jrem x3_1 16) (x3_1 / 16) h) 0 rfl rfl gX6_darkOf_X6_dark rfl kX6_dark ⟨rfl, rfl⟩ ⟨Nat.le_of_ble_eq_true rfl, Nat.le_of_ble_eq_true rfl⟩ rfl (Nat.le_of_ble_eq_true rfl) dX6_darkOf_22 (fun r_1 _ h => ?_)
        try dsimp only at h
        refine v_iadd C dX6_darkOf_25 ?_
        refine v_topi (fun x2_2 ex2_2 => ?_)
        replace h := h x2_2 ex2_2
        refine v_istore_n C [(2, .int x2_2), (3, .int x3_1), (0, .ref (ad 0)), (1, .int a1)] dX6_darkOf_26 rfl (by decide) rfl ?_
        refine v_iinc C (x3_1 + 1) 1 [(3, .int (x3_1 + 1)), (2, .int x2_2), (0, .ref (ad 0)), (1, .int a1)] dX6_darkOf_27 rfl rfl (by decide) rfl ?_
        refine v_goto C 4 dX6_darkOf_30 (by decide) ?_
        exact ih_1 (x3_1 + 1) x2_2 h
  obtain ⟨k_1, h⟩ := h
  exact hl_1 k_1 0 0 h
-- QuarterMasksModel.clears
def rmX6_clears : Room := { frames := 1, cells := 0, slots := 0, locals := 40 }
theorem kX6_clears : yX6_clears.cls = RX6 ∧ yX6_clears.cls ≠ "java/lang/invoke/MethodHandle" ∧ yX6_clears.cls ≠ "java/lang/invoke/VarHandle" ∧ (parseMethodDescriptor yX6_clears.desc).map (fun d => d.parameters.length) = some 0 := by decide +kernel
theorem mX6_clears_w1 : Cond.fieldLink RX6 25 "QuarterMasksModel" "fresh" "[I" ∈ wsX6_clears := List.mem_of_getElem? (i := 1) rfl
theorem iX6_clears_6 : ∀ w ∈ wsX60, w ∈ wsX6_clears := fun w h => List.mem_cons_of_mem _ (List.mem_append_right _ h)
def wl_Md_clears_2 (Q : IA → Prop) : Nat → Int32 → IA → Prop
  | 0, _, _ => False
  | n + 1, x1_1, fresh_1 => (16 ≤ x1_1 → (Q fresh_1)) ∧ (¬ 16 ≤ x1_1 → (vp_in x1_1 16 ∧ (∀ f_fresh_1 : IA, f_fresh_1 = upd fresh_1 x1_1.toNatClampNeg 0 → ((wl_Md_clears_2 Q n) (x1_1 + 1) f_fresh_1))))
def wp_Md_clears (fresh : IA)  (Q : IA → Prop) : Prop :=
  ∃ k_1 : Nat, wl_Md_clears_2 Q k_1 0 fresh
set_option maxHeartbeats 4000000 in
theorem c_Md_clears (l : Launch) (G : GG) (ad : Nat → Nat) (forms : IA) (sizes : IA) (items : IA) (moved : IA) (latest : Int32) (rows : IA) (fresh : IA) (oldMask : IA) (oldRows : IA) (known : Int32) (drawn : Int32) (label : IA) (pile : IA) (parts : Int32) (waitX : IA) (waitY : IA) (waitSide : IA) (waits : Int32) (sign : IA) (signs : Int32) (many : IA)  {Q : IA → Prop} (h : wp_Md_clears fresh Q) : qm_MV l yX6_clears wsX6_clears rmX6_clears G [.ref (ad 0)] (mw G ad forms sizes items moved latest rows fresh oldMask oldRows known drawn label pile parts waitX waitY waitSide waits sign signs many) (fun (u : IA) => Q u) (fun (u : IA) => mw G ad forms sizes items moved latest rows u oldMask oldRows known drawn label pile parts waitX waitY waitSide waits sign signs many) := by
  refine qm_mkV (cc := cX6_clears) (maxL := 2) (by decide) rfl (Nat.le_of_ble_eq_true rfl) ?_
  intro X C hret
  replace C : qm_C G 2 X cX6_clears wsX6_clears RX6 := C
  refine v_lv (lv' := [(0, .ref (ad 0))]) rfl ?_
  unfold wp_Md_clears at h
  refine v_iconst C 0 dX6_clears_0 (by decide) ?_
  refine v_istore_n C [(1, .int 0), (0, .ref (ad 0))] dX6_clears_1 rfl (by decide) rfl ?_
  have hl_1 : ∀ n_1 : Nat, ∀ (x1_1 : Int32) (fresh_1 : IA), wl_Md_clears_2 Q n_1 x1_1 fresh_1 → qm_V l G rmX6_clears 2 X (mw G ad forms sizes items moved latest rows fresh_1 oldMask oldRows known drawn label pile parts waitX waitY waitSide waits sign signs many) [(1, .int x1_1), (0, .ref (ad 0))] 2 [] := by
    intro n_1
    induction n_1 with
    | zero =>
      intro x1_1 fresh_1 h
      exact False.elim h
    | succ n_1 ih_1 =>
      intro x1_1 fresh_1 h
      rw [wl_Md_clears_2] at h
      refine v_iload_n C dX6_clears_2 rfl 0 rfl ?_
      refine v_bipush C 16 dX6_clears_3 (by decide) ?_
      refine v_icmp_ge C 21 dX6_clears_5 (by decide) (fun c_1 => ?_) (fun c_1 => ?_)
      · replace h := h.1 c_1
        exact hret _ _ _ fresh_1 h rfl dX6_clears_21
      · replace h := h.2 c_1
        refine v_aload_n C dX6_clears_8 rfl 1 rfl ?_
        refine v_get C iX6_clears_6 0 rfl rfl 6 (by decide) mX6_clears_w1 rfl rfl dX6_clears_9 ?_
        refine v_iload_n C dX6_clears_12 rfl 0 rfl ?_
        refine v_iconst C 0 dX6_clears_13 (by decide) ?_
        obtain ⟨hin_1, h⟩ := h
        obtain ⟨f_fresh_1, ef_fresh_1⟩ : ∃ y : IA, y = upd fresh_1 x1_1.toNatClampNeg 0 := ⟨_, rfl⟩
        replace h := h f_fresh_1 ef_fresh_1
        refine v_iast C 6 rfl (ws' := mw G ad forms sizes items moved latest rows f_fresh_1 oldMask oldRows known drawn label pile parts waitX waitY waitSide waits sign signs many) (by subst ef_fresh_1; exact rfl) hin_1 dX6_clears_14 ?_
        refine v_iinc C (x1_1 + 1) 0 [(1, .int (x1_1 + 1)), (0, .ref (ad 0))] dX6_clears_15 rfl rfl (by decide) rfl ?_
        refine v_goto C 2 dX6_clears_18 (by decide) ?_
        exact ih_1 (x1_1 + 1) f_fresh_1 h
  obtain ⟨k_1, h⟩ := h
  exact hl_1 k_1 0 fresh h
-- QuarterMasksModel.starts
def rmX6_starts : Room := { frames := 1, cells := 0, slots := 0, locals := 40 }
theorem kX6_starts : yX6_starts.cls = RX6 ∧ yX6_starts.cls ≠ "java/lang/invoke/MethodHandle" ∧ yX6_starts.cls ≠ "java/lang/invoke/VarHandle" ∧ (parseMethodDescriptor yX6_starts.desc).map (fun d => d.parameters.length) = some 1 := by decide +kernel
theorem mX6_starts_w1 : Cond.fieldLink RX6 25 "QuarterMasksModel" "fresh" "[I" ∈ wsX6_starts := List.mem_of_getElem? (i := 1) rfl
theorem iX6_starts_6 : ∀ w ∈ wsX60, w ∈ wsX6_starts := fun w h => List.mem_cons_of_mem _ (List.mem_append_right _ h)
theorem mX6_starts_w2 : Cond.fieldLink RX6 22 "QuarterMasksModel" "rows" "[I" ∈ wsX6_starts := List.mem_of_getElem? (i := 2) rfl
def wl_Md_starts_2 (rows : IA) (a1 : Int32) (Q : IA → Prop) : Nat → Int32 → IA → Prop
  | 0, _, _ => False
  | n + 1, x2_1, fresh_1 => (16 ≤ x2_1 → (Q fresh_1)) ∧ (¬ 16 ≤ x2_1 → (vp_in ((16 * a1) + x2_1) 64 ∧ (vp_in x2_1 16 ∧ (∀ f_fresh_1 : IA, f_fresh_1 = upd fresh_1 x2_1.toNatClampNeg (rows ((16 * a1) + x2_1).toNatClampNeg) → ((wl_Md_starts_2 rows a1 Q n) (x2_1 + 1) f_fresh_1)))))
def wp_Md_starts (rows : IA) (fresh : IA) (a1 : Int32) (Q : IA → Prop) : Prop :=
  ∃ k_1 : Nat, wl_Md_starts_2 rows a1 Q k_1 0 fresh
set_option maxHeartbeats 4000000 in
theorem c_Md_starts (l : Launch) (G : GG) (ad : Nat → Nat) (forms : IA) (sizes : IA) (items : IA) (moved : IA) (latest : Int32) (rows : IA) (fresh : IA) (oldMask : IA) (oldRows : IA) (known : Int32) (drawn : Int32) (label : IA) (pile : IA) (parts : Int32) (waitX : IA) (waitY : IA) (waitSide : IA) (waits : Int32) (sign : IA) (signs : Int32) (many : IA) (a1 : Int32) {Q : IA → Prop} (h : wp_Md_starts rows fresh a1 Q) : qm_MV l yX6_starts wsX6_starts rmX6_starts G [.ref (ad 0), .int a1] (mw G ad forms sizes items moved latest rows fresh oldMask oldRows known drawn label pile parts waitX waitY waitSide waits sign signs many) (fun (u : IA) => Q u) (fun (u : IA) => mw G ad forms sizes items moved latest rows u oldMask oldRows known drawn label pile parts waitX waitY waitSide waits sign signs many) := by
  refine qm_mkV (cc := cX6_starts) (maxL := 3) (by decide) rfl (Nat.le_of_ble_eq_true rfl) ?_
  intro X C hret
  replace C : qm_C G 3 X cX6_starts wsX6_starts RX6 := C
  refine v_lv (lv' := [(0, .ref (ad 0)), (1, .int a1)]) rfl ?_
  unfold wp_Md_starts at h
  refine v_iconst C 0 dX6_starts_0 (by decide) ?_
  refine v_istore_n C [(2, .int 0), (0, .ref (ad 0)), (1, .int a1)] dX6_starts_1 rfl (by decide) rfl ?_
  have hl_1 : ∀ n_1 : Nat, ∀ (x2_1 : Int32) (fresh_1 : IA), wl_Md_starts_2 rows a1 Q n_1 x2_1 fresh_1 → qm_V l G rmX6_starts 3 X (mw G ad forms sizes items moved latest rows fresh_1 oldMask oldRows known drawn label pile parts waitX waitY waitSide waits sign signs many) [(2, .int x2_1), (0, .ref (ad 0)), (1, .int a1)] 2 [] := by
    intro n_1
    induction n_1 with
    | zero =>
      intro x2_1 fresh_1 h
      exact False.elim h
    | succ n_1 ih_1 =>
      intro x2_1 fresh_1 h
      rw [wl_Md_starts_2] at h
      refine v_iload_n C dX6_starts_2 rfl 0 rfl ?_
      refine v_bipush C 16 dX6_starts_3 (by decide) ?_
      refine v_icmp_ge C 31 dX6_starts_5 (by decide) (fun c_1 => ?_) (fun c_1 => ?_)
      · replace h := h.1 c_1
        exact hret _ _ _ fresh_1 h rfl dX6_starts_31
      · replace h := h.2 c_1
        refine v_aload_n C dX6_starts_8 rfl 1 rfl ?_
        refine v_get C iX6_starts_6 0 rfl rfl 6 (by decide) mX6_starts_w1 rfl rfl dX6_starts_9 ?_
        refine v_iload_n C dX6_starts_12 rfl 0 rfl ?_
        refine v_aload_n C dX6_starts_13 rfl 1 rfl ?_
        refine v_get C iX6_starts_6 0 rfl rfl 5 (by decide) mX6_starts_w2 rfl rfl dX6_starts_14 ?_
        refine v_bipush C 16 dX6_starts_17 (by decide) ?_
        refine v_iload_n C dX6_starts_19 rfl 2 rfl ?_
        refine v_imul C dX6_starts_20 ?_
        refine v_iload_n C dX6_starts_21 rfl 0 rfl ?_
        refine v_iadd C dX6_starts_22 ?_
        obtain ⟨hin_1, h⟩ := h
        refine v_iald C 5 rfl hin_1 dX6_starts_23 ?_
        obtain ⟨hin_2, h⟩ := h
        obtain ⟨f_fresh_1, ef_fresh_1⟩ : ∃ y : IA, y = upd fresh_1 x2_1.toNatClampNeg (rows ((16 * a1) + x2_1).toNatClampNeg) := ⟨_, rfl⟩
        replace h := h f_fresh_1 ef_fresh_1
        refine v_iast C 6 rfl (ws' := mw G ad forms sizes items moved latest rows f_fresh_1 oldMask oldRows known drawn label pile parts waitX waitY waitSide waits sign signs many) (by subst ef_fresh_1; exact rfl) hin_2 dX6_starts_24 ?_
        refine v_iinc C (x2_1 + 1) 0 [(2, .int (x2_1 + 1)), (0, .ref (ad 0)), (1, .int a1)] dX6_starts_25 rfl rfl (by decide) rfl ?_
        refine v_goto C 2 dX6_starts_28 (by decide) ?_
        exact ih_1 (x2_1 + 1) f_fresh_1 h
  obtain ⟨k_1, h⟩ := h
  exact hl_1 k_1 0 fresh h
-- QuarterMasksModel.sets
def rmX6_sets : Room := { frames := 1, cells := 0, slots := 0, locals := 40 }
theorem kX6_sets : yX6_sets.cls = RX6 ∧ yX6_sets.cls ≠ "java/lang/invoke/MethodHandle" ∧ yX6_sets.cls ≠ "java/lang/invoke/VarHandle" ∧ (parseMethodDescriptor yX6_sets.desc).map (fun d => d.parameters.length) = some 3 := by decide +kernel
theorem mX6_sets_w1 : Cond.fieldLink RX6 25 "QuarterMasksModel" "fresh" "[I" ∈ wsX6_sets := List.mem_of_getElem? (i := 1) rfl
theorem iX6_sets_6 : ∀ w ∈ wsX60, w ∈ wsX6_sets := fun w h => List.mem_cons_of_mem _ (List.mem_append_right _ h)
def wp_Md_sets (fresh : IA) (a1 : Int32) (a2 : Int32) (a3 : Int32) (Q : IA → Prop) : Prop :=
  vp_in a2 16 ∧ (vp_in a2 16 ∧ (∀ f_fresh_1 : IA, f_fresh_1 = upd fresh a2.toNatClampNeg (((fresh a2.toNatClampNeg) &&& ((jshl 1 a1) ^^^ (-1))) ||| (jshl a3 a1)) → (Q f_fresh_1)))
set_option maxHeartbeats 4000000 in
theorem c_Md_sets (l : Launch) (G : GG) (ad : Nat → Nat) (forms : IA) (sizes : IA) (items : IA) (moved : IA) (latest : Int32) (rows : IA) (fresh : IA) (oldMask : IA) (oldRows : IA) (known : Int32) (drawn : Int32) (label : IA) (pile : IA) (parts : Int32) (waitX : IA) (waitY : IA) (waitSide : IA) (waits : Int32) (sign : IA) (signs : Int32) (many : IA) (a1 : Int32) (a2 : Int32) (a3 : Int32) {Q : IA → Prop} (h : wp_Md_sets fresh a1 a2 a3 Q) : qm_MV l yX6_sets wsX6_sets rmX6_sets G [.ref (ad 0), .int a1, .int a2, .int a3] (mw G ad forms sizes items moved latest rows fresh oldMask oldRows known drawn label pile parts waitX waitY waitSide waits sign signs many) (fun (u : IA) => Q u) (fun (u : IA) => mw G ad forms sizes items moved latest rows u oldMask oldRows known drawn label pile parts waitX waitY waitSide waits sign signs many) := by
  refine qm_mkV (cc := cX6_sets) (maxL := 4) (by decide) rfl (Nat.le_of_ble_eq_true rfl) ?_
  intro X C hret
  replace C : qm_C G 4 X cX6_sets wsX6_sets RX6 := C
  refine v_lv (lv' := [(0, .ref (ad 0)), (1, .int a1), (2, .int a2), (3, .int a3)]) rfl ?_
  unfold wp_Md_sets at h
  refine v_aload_n C dX6_sets_0 rfl 0 rfl ?_
  refine v_get C iX6_sets_6 0 rfl rfl 6 (by decide) mX6_sets_w1 rfl rfl dX6_sets_1 ?_
  refine v_iload_n C dX6_sets_4 rfl 2 rfl ?_
  refine v_aload_n C dX6_sets_5 rfl 0 rfl ?_
  refine v_get C iX6_sets_6 0 rfl rfl 6 (by decide) mX6_sets_w1 rfl rfl dX6_sets_6 ?_
  refine v_iload_n C dX6_sets_9 rfl 2 rfl ?_
  obtain ⟨hin_1, h⟩ := h
  refine v_iald C 6 rfl hin_1 dX6_sets_10 ?_
  refine v_iconst C 1 dX6_sets_11 (by decide) ?_
  refine v_iload_n C dX6_sets_12 rfl 1 rfl ?_
  refine v_ishl C dX6_sets_13 ?_
  refine v_iconst C (-1) dX6_sets_14 (by decide) ?_
  refine v_ixor C dX6_sets_15 ?_
  refine v_iand C dX6_sets_16 ?_
  refine v_iload_n C dX6_sets_17 rfl 3 rfl ?_
  refine v_iload_n C dX6_sets_18 rfl 1 rfl ?_
  refine v_ishl C dX6_sets_19 ?_
  refine v_ior C dX6_sets_20 ?_
  obtain ⟨hin_2, h⟩ := h
  obtain ⟨f_fresh_1, ef_fresh_1⟩ : ∃ y : IA, y = upd fresh a2.toNatClampNeg (((fresh a2.toNatClampNeg) &&& ((jshl 1 a1) ^^^ (-1))) ||| (jshl a3 a1)) := ⟨_, rfl⟩
  replace h := h f_fresh_1 ef_fresh_1
  refine v_iast C 6 rfl (ws' := mw G ad forms sizes items moved latest rows f_fresh_1 oldMask oldRows known drawn label pile parts waitX waitY waitSide waits sign signs many) (by subst ef_fresh_1; exact rfl) hin_2 dX6_sets_21 ?_
  exact hret _ _ _ f_fresh_1 h rfl dX6_sets_22
-- QuarterMasksModel.becomes
def rmX6_becomes : Room := { frames := 1, cells := 0, slots := 0, locals := 40 }
theorem kX6_becomes : yX6_becomes.cls = RX6 ∧ yX6_becomes.cls ≠ "java/lang/invoke/MethodHandle" ∧ yX6_becomes.cls ≠ "java/lang/invoke/VarHandle" ∧ (parseMethodDescriptor yX6_becomes.desc).map (fun d => d.parameters.length) = some 1 := by decide +kernel
theorem mX6_becomes_w1 : Cond.fieldLink RX6 93 "QuarterMasksModel" "known" "I" ∈ wsX6_becomes := List.mem_of_getElem? (i := 1) rfl
theorem iX6_becomes_6 : ∀ w ∈ wsX60, w ∈ wsX6_becomes := fun w h => List.mem_cons_of_mem _ (List.mem_append_right _ h)
theorem mX6_becomes_w2 : Cond.fieldLink RX6 28 "QuarterMasksModel" "oldMask" "[I" ∈ wsX6_becomes := List.mem_of_getElem? (i := 2) rfl
theorem mX6_becomes_w3 : Cond.fieldLink RX6 31 "QuarterMasksModel" "oldRows" "[I" ∈ wsX6_becomes := List.mem_of_getElem? (i := 3) rfl
theorem mX6_becomes_w4 : Cond.fieldLink RX6 22 "QuarterMasksModel" "rows" "[I" ∈ wsX6_becomes := List.mem_of_getElem? (i := 4) rfl
theorem mX6_becomes_w5 : Cond.fieldLink RX6 25 "QuarterMasksModel" "fresh" "[I" ∈ wsX6_becomes := List.mem_of_getElem? (i := 5) rfl
def wx_Md_becomes_144 (Q : IA → IA → IA → Int32 → Prop) (known_1 : Int32) (f_oldMask_1 : IA) (x2_2 : Int32) (rows_2 : IA) (oldRows_3 : IA) : Prop :=
  ∀ v_known_1 : Int32, v_known_1 = (known_1 + 1) → (Q rows_2 f_oldMask_1 oldRows_3 v_known_1)
def wl_Md_becomes_90 (fresh : IA) (a1 : Int32) (known_1 : Int32) (Kx_1 : Int32 → IA → IA → Prop) : Nat → Int32 → IA → IA → Prop
  | 0, _, _, _ => False
  | n + 1, x2_1, rows_1, oldRows_2 => (16 ≤ x2_1 → (Kx_1 x2_1 rows_1 oldRows_2)) ∧ (¬ 16 ≤ x2_1 → (vp_in ((16 * a1) + x2_1) 64 ∧ (vp_in ((16 * known_1) + x2_1) 640 ∧ (∀ f_oldRows_1 : IA, f_oldRows_1 = upd oldRows_2 ((16 * known_1) + x2_1).toNatClampNeg (rows_1 ((16 * a1) + x2_1).toNatClampNeg) → (vp_in x2_1 16 ∧ (vp_in ((16 * a1) + x2_1) 64 ∧ (∀ f_rows_1 : IA, f_rows_1 = upd rows_1 ((16 * a1) + x2_1).toNatClampNeg (fresh x2_1.toNatClampNeg) → ((wl_Md_becomes_90 fresh a1 known_1 Kx_1 n) (x2_1 + 1) f_rows_1 f_oldRows_1))))))))
def wj_Md_becomes_78 (rows : IA) (fresh : IA) (a1 : Int32) (Q : IA → IA → IA → Int32 → Prop) (oldMask_1 : IA) (oldRows_1 : IA) (known_1 : Int32) : Prop :=
  vp_in known_1 40 ∧ (∀ f_oldMask_1 : IA, f_oldMask_1 = upd oldMask_1 known_1.toNatClampNeg a1 → (∃ k_1 : Nat, wl_Md_becomes_90 fresh a1 known_1 (wx_Md_becomes_144 Q known_1 f_oldMask_1) k_1 0 rows oldRows_1))
def wx_Md_becomes_68 (known : Int32) (K_1 : IA → IA → Int32 → Prop) (oldMask_3 : IA) (x2_6 : Int32) (oldRows_5 : IA) : Prop :=
  ∀ v_known_2 : Int32, v_known_2 = (known - 1) → (K_1 oldMask_3 oldRows_5 v_known_2)
def wl_Md_becomes_40 (Kx_2 : Int32 → IA → Prop) : Nat → Int32 → IA → Prop
  | 0, _, _ => False
  | n + 1, x2_5, oldRows_4 => (640 ≤ x2_5 → (Kx_2 x2_5 oldRows_4)) ∧ (¬ 640 ≤ x2_5 → (vp_in x2_5 640 ∧ (vp_in (x2_5 - 16) 640 ∧ (∀ f_oldRows_2 : IA, f_oldRows_2 = upd oldRows_4 (x2_5 - 16).toNatClampNeg (oldRows_4 x2_5.toNatClampNeg) → ((wl_Md_becomes_40 Kx_2 n) (x2_5 + 1) f_oldRows_2)))))
def wx_Md_becomes_37 (oldRows : IA) (known : Int32) (K_1 : IA → IA → Int32 → Prop) (x2_4 : Int32) (oldMask_3 : IA) : Prop :=
  ∃ k_2 : Nat, wl_Md_becomes_40 (wx_Md_becomes_68 known K_1 oldMask_3) k_2 16 oldRows
def wl_Md_becomes_11 (Kx_3 : Int32 → IA → Prop) : Nat → Int32 → IA → Prop
  | 0, _, _ => False
  | n + 1, x2_3, oldMask_2 => (40 ≤ x2_3 → (Kx_3 x2_3 oldMask_2)) ∧ (¬ 40 ≤ x2_3 → (vp_in x2_3 40 ∧ (vp_in (x2_3 - 1) 40 ∧ (∀ f_oldMask_2 : IA, f_oldMask_2 = upd oldMask_2 (x2_3 - 1).toNatClampNeg (oldMask_2 x2_3.toNatClampNeg) → ((wl_Md_becomes_11 Kx_3 n) (x2_3 + 1) f_oldMask_2)))))
def wp_Md_becomes (rows : IA) (fresh : IA) (oldMask : IA) (oldRows : IA) (known : Int32) (a1 : Int32) (Q : IA → IA → IA → Int32 → Prop) : Prop :=
  jn (wj_Md_becomes_78 rows fresh a1 Q) (fun K_1 : IA → IA → Int32 → Prop => (known = 40 → (∃ k_3 : Nat, wl_Md_becomes_11 (wx_Md_becomes_37 oldRows known K_1) k_3 1 oldMask)) ∧ (¬ known = 40 → (K_1 oldMask oldRows known)))
set_option maxHeartbeats 4000000 in
theorem c_Md_becomes (l : Launch) (G : GG) (ad : Nat → Nat) (forms : IA) (sizes : IA) (items : IA) (moved : IA) (latest : Int32) (rows : IA) (fresh : IA) (oldMask : IA) (oldRows : IA) (known : Int32) (drawn : Int32) (label : IA) (pile : IA) (parts : Int32) (waitX : IA) (waitY : IA) (waitSide : IA) (waits : Int32) (sign : IA) (signs : Int32) (many : IA) (a1 : Int32) {Q : IA → IA → IA → Int32 → Prop} (h : wp_Md_becomes rows fresh oldMask oldRows known a1 Q) : qm_MV l yX6_becomes wsX6_becomes rmX6_becomes G [.ref (ad 0), .int a1] (mw G ad forms sizes items moved latest rows fresh oldMask oldRows known drawn label pile parts waitX waitY waitSide waits sign signs many) (fun (u : IA × IA × IA × Int32) => Q u.1 u.2.1 u.2.2.1 u.2.2.2) (fun (u : IA × IA × IA × Int32) => mw G ad forms sizes items moved latest u.1 fresh u.2.1 u.2.2.1 u.2.2.2 drawn label pile parts waitX waitY waitSide waits sign signs many) := by
  refine qm_mkV (cc := cX6_becomes) (maxL := 3) (by decide) rfl (Nat.le_of_ble_eq_true rfl) ?_
  intro X C hret
  replace C : qm_C G 3 X cX6_becomes wsX6_becomes RX6 := C
  refine v_lv (lv' := [(0, .ref (ad 0)), (1, .int a1)]) rfl ?_
  unfold wp_Md_becomes at h
  refine v_aload_n C dX6_becomes_0 rfl 0 rfl ?_
  refine v_get C iX6_becomes_6 0 rfl rfl 9 (by decide) mX6_becomes_w1 rfl rfl dX6_becomes_1 ?_
  refine v_bipush C 40 dX6_becomes_4 (by decide) ?_
  have hJ_1 : ∀ (oldMask_1 : IA) (oldRows_1 : IA) (known_1 : Int32), (wj_Md_becomes_78 rows fresh a1 Q) oldMask_1 oldRows_1 known_1 → qm_V l G rmX6_becomes 3 X (mw G ad forms sizes items moved latest rows fresh oldMask_1 oldRows_1 known_1 drawn label pile parts waitX waitY waitSide waits sign signs many) [(0, .ref (ad 0)), (1, .int a1)] 78 [] := by
    intro oldMask_1 oldRows_1 known_1 h
    unfold wj_Md_becomes_78 at h
    refine v_aload_n C dX6_becomes_78 rfl 0 rfl ?_
    refine v_get C iX6_becomes_6 0 rfl rfl 7 (by decide) mX6_becomes_w2 rfl rfl dX6_becomes_79 ?_
    refine v_aload_n C dX6_becomes_82 rfl 0 rfl ?_
    refine v_get C iX6_becomes_6 0 rfl rfl 9 (by decide) mX6_becomes_w1 rfl rfl dX6_becomes_83 ?_
    refine v_iload_n C dX6_becomes_86 rfl 1 rfl ?_
    obtain ⟨hin_1, h⟩ := h
    obtain ⟨f_oldMask_1, ef_oldMask_1⟩ : ∃ y : IA, y = upd oldMask_1 known_1.toNatClampNeg a1 := ⟨_, rfl⟩
    replace h := h f_oldMask_1 ef_oldMask_1
    refine v_iast C 7 rfl (ws' := mw G ad forms sizes items moved latest rows fresh f_oldMask_1 oldRows_1 known_1 drawn label pile parts waitX waitY waitSide waits sign signs many) (by subst ef_oldMask_1; exact rfl) hin_1 dX6_becomes_87 ?_
    refine v_iconst C 0 dX6_becomes_88 (by decide) ?_
    refine v_istore_n C [(2, .int 0), (0, .ref (ad 0)), (1, .int a1)] dX6_becomes_89 rfl (by decide) rfl ?_
    have hx_1 : ∀ (x2_2 : Int32) (rows_2 : IA) (oldRows_3 : IA), (wx_Md_becomes_144 Q known_1 f_oldMask_1) x2_2 rows_2 oldRows_3 → qm_V l G rmX6_becomes 3 X (mw G ad forms sizes items moved latest rows_2 fresh f_oldMask_1 oldRows_3 known_1 drawn label pile parts waitX waitY waitSide waits sign signs many) [(2, .int x2_2), (0, .ref (ad 0)), (1, .int a1)] 144 [] := by
      intro x2_2 rows_2 oldRows_3 h
      unfold wx_Md_becomes_144 at h
      refine v_aload_n C dX6_becomes_144 rfl 1 rfl ?_
      refine v_dup C dX6_becomes_145 rfl ?_
      refine v_get C iX6_becomes_6 0 rfl rfl 9 (by decide) mX6_becomes_w1 rfl rfl dX6_becomes_146 ?_
      refine v_iconst C 1 dX6_becomes_149 (by decide) ?_
      refine v_iadd C dX6_becomes_150 ?_
      refine v_topi (fun v_known_1 ev_known_1 => ?_)
      replace h := h v_known_1 ev_known_1
      refine v_put C iX6_becomes_6 tyX6_ok nmX6 0 rfl rfl 9 (by decide) mX6_becomes_w1 rfl rfl rfl rfl rfl (Nat.le_of_ble_eq_true rfl) (ws' := mw G ad forms sizes items moved latest rows_2 fresh f_oldMask_1 oldRows_3 v_known_1 drawn label pile parts waitX waitY waitSide waits sign signs many) rfl dX6_becomes_151 ?_
      exact hret _ _ _ (rows_2, f_oldMask_1, oldRows_3, v_known_1) h rfl dX6_becomes_154
    have hl_1 : ∀ n_1 : Nat, ∀ (x2_1 : Int32) (rows_1 : IA) (oldRows_2 : IA), wl_Md_becomes_90 fresh a1 known_1 (wx_Md_becomes_144 Q known_1 f_oldMask_1) n_1 x2_1 rows_1 oldRows_2 → qm_V l G rmX6_becomes 3 X (mw G ad forms sizes items moved latest rows_1 fresh f_oldMask_1 oldRows_2 known_1 drawn label pile parts waitX waitY waitSide waits sign signs many) [(2, .int x2_1), (0, .ref (ad 0)), (1, .int a1)] 90 [] := by
      intro n_1
      induction n_1 with
      | zero =>
        intro x2_1 rows_1 oldRows_2 h
        exact False.elim h
      | succ n_1 ih_1 =>
        intro x2_1 rows_1 oldRows_2 h
        rw [wl_Md_becomes_90] at h
        refine v_iload_n C dX6_becomes_90 rfl 0 rfl ?_
        refine v_bipush C 16 dX6_becomes_91 (by decide) ?_
        refine v_icmp_ge C 144 dX6_becomes_93 (by decide) (fun c_1 => ?_) (fun c_1 => ?_)
        · replace h := h.1 c_1
          exact hx_1 x2_1 rows_1 oldRows_2 h
        · replace h := h.2 c_1
          refine v_aload_n C dX6_becomes_96 rfl 1 rfl ?_
          refine v_get C iX6_becomes_6 0 rfl rfl 8 (by decide) mX6_becomes_w3 rfl rfl dX6_becomes_97 ?_
          refine v_bipush C 16 dX6_becomes_100 (by decide) ?_
          refine v_aload_n C dX6_becomes_102 rfl 1 rfl ?_
          refine v_get C iX6_becomes_6 0 rfl rfl 9 (by decide) mX6_becomes_w1 rfl rfl dX6_becomes_103 ?_
          refine v_imul C dX6_becomes_106 ?_
          refine v_iload_n C dX6_becomes_107 rfl 0 rfl ?_
          refine v_iadd C dX6_becomes_108 ?_
          refine v_aload_n C dX6_becomes_109 rfl 1 rfl ?_
          refine v_get C iX6_becomes_6 0 rfl rfl 5 (by decide) mX6_becomes_w4 rfl rfl dX6_becomes_110 ?_
          refine v_bipush C 16 dX6_becomes_113 (by decide) ?_
          refine v_iload_n C dX6_becomes_115 rfl 2 rfl ?_
          refine v_imul C dX6_becomes_116 ?_
          refine v_iload_n C dX6_becomes_117 rfl 0 rfl ?_
          refine v_iadd C dX6_becomes_118 ?_
          obtain ⟨hin_2, h⟩ := h
          refine v_iald C 5 rfl hin_2 dX6_becomes_119 ?_
          obtain ⟨hin_3, h⟩ := h
          obtain ⟨f_oldRows_1, ef_oldRows_1⟩ : ∃ y : IA, y = upd oldRows_2 ((16 * known_1) + x2_1).toNatClampNeg (rows_1 ((16 * a1) + x2_1).toNatClampNeg) := ⟨_, rfl⟩
          replace h := h f_oldRows_1 ef_oldRows_1
          refine v_iast C 8 rfl (ws' := mw G ad forms sizes items moved latest rows_1 fresh f_oldMask_1 f_oldRows_1 known_1 drawn label pile parts waitX waitY waitSide waits sign signs many) (by subst ef_oldRows_1; exact rfl) hin_3 dX6_becomes_120 ?_
          refine v_aload_n C dX6_becomes_121 rfl 1 rfl ?_
          refine v_get C iX6_becomes_6 0 rfl rfl 5 (by decide) mX6_becomes_w4 rfl rfl dX6_becomes_122 ?_
          refine v_bipush C 16 dX6_becomes_125 (by decide) ?_
          refine v_iload_n C dX6_becomes_127 rfl 2 rfl ?_
          refine v_imul C dX6_becomes_128 ?_
          refine v_iload_n C dX6_becomes_129 rfl 0 rfl ?_
          refine v_iadd C dX6_becomes_130 ?_
          refine v_aload_n C dX6_becomes_131 rfl 1 rfl ?_
          refine v_get C iX6_becomes_6 0 rfl rfl 6 (by decide) mX6_becomes_w5 rfl rfl dX6_becomes_132 ?_
          refine v_iload_n C dX6_becomes_135 rfl 0 rfl ?_
          obtain ⟨hin_4, h⟩ := h
          refine v_iald C 6 rfl hin_4 dX6_becomes_136 ?_
          obtain ⟨hin_5, h⟩ := h
          obtain ⟨f_rows_1, ef_rows_1⟩ : ∃ y : IA, y = upd rows_1 ((16 * a1) + x2_1).toNatClampNeg (fresh x2_1.toNatClampNeg) := ⟨_, rfl⟩
          replace h := h f_rows_1 ef_rows_1
          refine v_iast C 5 rfl (ws' := mw G ad forms sizes items moved latest f_rows_1 fresh f_oldMask_1 f_oldRows_1 known_1 drawn label pile parts waitX waitY waitSide waits sign signs many) (by subst ef_rows_1; exact rfl) hin_5 dX6_becomes_137 ?_
          refine v_iinc C (x2_1 + 1) 0 [(2, .int (x2_1 + 1)), (0, .ref (ad 0)), (1, .int a1)] dX6_becomes_138 rfl rfl (by decide) rfl ?_
          refine v_goto C 90 dX6_becomes_141 (by decide) ?_
          exact ih_1 (x2_1 + 1) f_rows_1 f_oldRows_1 h
    obtain ⟨k_1, h⟩ := h
    exact hl_1 k_1 0 rows oldRows_1 h
  replace h := jn_use h
  try dsimp only at h
  refine v_icmp_ne C 78 dX6_becomes_6 (by decide) (fun c_4 => ?_) (fun c_4 => ?_)
  · replace h := h.2 c_4
    exact hJ_1 oldMask oldRows known h
  · replace h := h.1 c_4
    refine v_iconst C 1 dX6_becomes_9 (by decide) ?_
    refine v_istore_n C [(2, .int 1), (0, .ref (ad 0)), (1, .int a1)] dX6_becomes_10 rfl (by decide) rfl ?_
    have hx_3 : ∀ (x2_4 : Int32) (oldMask_3 : IA), (wx_Md_becomes_37 oldRows known (wj_Md_becomes_78 rows fresh a1 Q)) x2_4 oldMask_3 → qm_V l G rmX6_becomes 3 X (mw G ad forms sizes items moved latest rows fresh oldMask_3 oldRows known drawn label pile parts waitX waitY waitSide waits sign signs many) [(2, .int x2_4), (0, .ref (ad 0)), (1, .int a1)] 37 [] := by
      intro x2_4 oldMask_3 h
      unfold wx_Md_becomes_37 at h
      refine v_bipush C 16 dX6_becomes_37 (by decide) ?_
      refine v_istore_n C [(2, .int 16), (0, .ref (ad 0)), (1, .int a1)] dX6_becomes_39 rfl (by decide) rfl ?_
      have hx_2 : ∀ (x2_6 : Int32) (oldRows_5 : IA), (wx_Md_becomes_68 known (wj_Md_becomes_78 rows fresh a1 Q) oldMask_3) x2_6 oldRows_5 → qm_V l G rmX6_becomes 3 X (mw G ad forms sizes items moved latest rows fresh oldMask_3 oldRows_5 known drawn label pile parts waitX waitY waitSide waits sign signs many) [(2, .int x2_6), (0, .ref (ad 0)), (1, .int a1)] 68 [] := by
        intro x2_6 oldRows_5 h
        unfold wx_Md_becomes_68 at h
        refine v_aload_n C dX6_becomes_68 rfl 1 rfl ?_
        refine v_dup C dX6_becomes_69 rfl ?_
        refine v_get C iX6_becomes_6 0 rfl rfl 9 (by decide) mX6_becomes_w1 rfl rfl dX6_becomes_70 ?_
        refine v_iconst C 1 dX6_becomes_73 (by decide) ?_
        refine v_isub C dX6_becomes_74 ?_
        refine v_topi (fun v_known_2 ev_known_2 => ?_)
        replace h := h v_known_2 ev_known_2
        refine v_put C iX6_becomes_6 tyX6_ok nmX6 0 rfl rfl 9 (by decide) mX6_becomes_w1 rfl rfl rfl rfl rfl (Nat.le_of_ble_eq_true rfl) (ws' := mw G ad forms sizes items moved latest rows fresh oldMask_3 oldRows_5 v_known_2 drawn label pile parts waitX waitY waitSide waits sign signs many) rfl dX6_becomes_75 ?_
        refine v_perm [1, 2] rfl ?_
        exact hJ_1 oldMask_3 oldRows_5 v_known_2 h
      have hl_2 : ∀ n_2 : Nat, ∀ (x2_5 : Int32) (oldRows_4 : IA), wl_Md_becomes_40 (wx_Md_becomes_68 known (wj_Md_becomes_78 rows fresh a1 Q) oldMask_3) n_2 x2_5 oldRows_4 → qm_V l G rmX6_becomes 3 X (mw G ad forms sizes items moved latest rows fresh oldMask_3 oldRows_4 known drawn label pile parts waitX waitY waitSide waits sign signs many) [(2, .int x2_5), (0, .ref (ad 0)), (1, .int a1)] 40 [] := by
        intro n_2
        induction n_2 with
        | zero =>
          intro x2_5 oldRows_4 h
          exact False.elim h
        | succ n_2 ih_2 =>
          intro x2_5 oldRows_4 h
          rw [wl_Md_becomes_40] at h
          refine v_iload_n C dX6_becomes_40 rfl 0 rfl ?_
          refine v_sipush C 640 dX6_becomes_41 (by decide) ?_
          refine v_icmp_ge C 68 dX6_becomes_44 (by decide) (fun c_2 => ?_) (fun c_2 => ?_)
          · replace h := h.1 c_2
            exact hx_2 x2_5 oldRows_4 h
          · replace h := h.2 c_2
            refine v_aload_n C dX6_becomes_47 rfl 1 rfl ?_
            refine v_get C iX6_becomes_6 0 rfl rfl 8 (by decide) mX6_becomes_w3 rfl rfl dX6_becomes_48 ?_
            refine v_iload_n C dX6_becomes_51 rfl 0 rfl ?_
            refine v_bipush C 16 dX6_becomes_52 (by decide) ?_
            refine v_isub C dX6_becomes_54 ?_
            refine v_aload_n C dX6_becomes_55 rfl 1 rfl ?_
            refine v_get C iX6_becomes_6 0 rfl rfl 8 (by decide) mX6_becomes_w3 rfl rfl dX6_becomes_56 ?_
            refine v_iload_n C dX6_becomes_59 rfl 0 rfl ?_
            obtain ⟨hin_6, h⟩ := h
            refine v_iald C 8 rfl hin_6 dX6_becomes_60 ?_
            obtain ⟨hin_7, h⟩ := h
            obtain ⟨f_oldRows_2, ef_oldRows_2⟩ : ∃ y : IA, y = upd oldRows_4 (x2_5 - 16).toNatClampNeg (oldRows_4 x2_5.toNatClampNeg) := ⟨_, rfl⟩
            replace h := h f_oldRows_2 ef_oldRows_2
            refine v_iast C 8 rfl (ws' := mw G ad forms sizes items moved latest rows fresh oldMask_3 f_oldRows_2 known drawn label pile parts waitX waitY waitSide waits sign signs many) (by subst ef_oldRows_2; exact rfl) hin_7 dX6_becomes_61 ?_
            refine v_iinc C (x2_5 + 1) 0 [(2, .int (x2_5 + 1)), (0, .ref (ad 0)), (1, .int a1)] dX6_becomes_62 rfl rfl (by decide) rfl ?_
            refine v_goto C 40 dX6_becomes_65 (by decide) ?_
            exact ih_2 (x2_5 + 1) f_oldRows_2 h
      obtain ⟨k_2, h⟩ := h
      exact hl_2 k_2 16 oldRows h
    have hl_3 : ∀ n_3 : Nat, ∀ (x2_3 : Int32) (oldMask_2 : IA), wl_Md_becomes_11 (wx_Md_becomes_37 oldRows known (wj_Md_becomes_78 rows fresh a1 Q)) n_3 x2_3 oldMask_2 → qm_V l G rmX6_becomes 3 X (mw G ad forms sizes items moved latest rows fresh oldMask_2 oldRows known drawn label pile parts waitX waitY waitSide waits sign signs many) [(2, .int x2_3), (0, .ref (ad 0)), (1, .int a1)] 11 [] := by
      intro n_3
      induction n_3 with
      | zero =>
        intro x2_3 oldMask_2 h
        exact False.elim h
      | succ n_3 ih_3 =>
        intro x2_3 oldMask_2 h
        rw [wl_Md_becomes_11] at h
        refine v_iload_n C dX6_becomes_11 rfl 0 rfl ?_
        refine v_bipush C 40 dX6_becomes_12 (by decide) ?_
        refine v_icmp_ge C 37 dX6_becomes_14 (by decide) (fun c_3 => ?_) (fun c_3 => ?_)
        · replace h := h.1 c_3
          exact hx_3 x2_3 oldMask_2 h
        · replace h := h.2 c_3
          refine v_aload_n C dX6_becomes_17 rfl 1 rfl ?_
          refine v_get C iX6_becomes_6 0 rfl rfl 7 (by decide) mX6_becomes_w2 rfl rfl dX6_becomes_18 ?_
          refine v_iload_n C dX6_becomes_21 rfl 0 rfl ?_
          refine v_iconst C 1 dX6_becomes_22 (by decide) ?_
          refine v_isub C dX6_becomes_23 ?_
          refine v_aload_n C dX6_becomes_24 rfl 1 rfl ?_
          refine v_get C iX6_becomes_6 0 rfl rfl 7 (by decide) mX6_becomes_w2 rfl rfl dX6_becomes_25 ?_
          refine v_iload_n C dX6_becomes_28 rfl 0 rfl ?_
          obtain ⟨hin_8, h⟩ := h
          refine v_iald C 7 rfl hin_8 dX6_becomes_29 ?_
          obtain ⟨hin_9, h⟩ := h
          obtain ⟨f_oldMask_2, ef_oldMask_2⟩ : ∃ y : IA, y = upd oldMask_2 (x2_3 - 1).toNatClampNeg (oldMask_2 x2_3.toNatClampNeg) := ⟨_, rfl⟩
          replace h := h f_oldMask_2 ef_oldMask_2
          refine v_iast C 7 rfl (ws' := mw G ad forms sizes items moved latest rows fresh f_oldMask_2 oldRows known drawn label pile parts waitX waitY waitSide waits sign signs many) (by subst ef_oldMask_2; exact rfl) hin_9 dX6_becomes_30 ?_
          refine v_iinc C (x2_3 + 1) 0 [(2, .int (x2_3 + 1)), (0, .ref (ad 0)), (1, .int a1)] dX6_becomes_31 rfl rfl (by decide) rfl ?_
          refine v_goto C 11 dX6_becomes_34 (by decide) ?_
          exact ih_3 (x2_3 + 1) f_oldMask_2 h
    obtain ⟨k_3, h⟩ := h
    exact hl_3 k_3 1 oldMask h
-- QuarterMasksModel.become
def rmX6_become : Room := { frames := 5, cells := 0, slots := 0, locals := 132 }
theorem kX6_become : yX6_become.cls = RX6 ∧ yX6_become.cls ≠ "java/lang/invoke/MethodHandle" ∧ yX6_become.cls ≠ "java/lang/invoke/VarHandle" ∧ (parseMethodDescriptor yX6_become.desc).map (fun d => d.parameters.length) = some 1 := by decide +kernel
def wp_Md_become (rows : IA) (fresh : IA) (oldMask : IA) (oldRows : IA) (known : Int32) (a1 : Int32) (Q : Int32 → IA → IA → IA → Int32 → Prop) : Prop :=
  wp_Md_becomes rows fresh oldMask oldRows known a1 (fun m_rows_1 m_oldMask_1 m_oldRows_1 m_known_1 => wp_Md_darkOf m_rows_1 a1 (fun r_1 => Q r_1 m_rows_1 m_oldMask_1 m_oldRows_1 m_known_1))
set_option maxHeartbeats 4000000 in
theorem c_Md_become (l : Launch) (G : GG) (ad : Nat → Nat) (forms : IA) (sizes : IA) (items : IA) (moved : IA) (latest : Int32) (rows : IA) (fresh : IA) (oldMask : IA) (oldRows : IA) (known : Int32) (drawn : Int32) (label : IA) (pile : IA) (parts : Int32) (waitX : IA) (waitY : IA) (waitSide : IA) (waits : Int32) (sign : IA) (signs : Int32) (many : IA) (a1 : Int32) {Q : Int32 → IA → IA → IA → Int32 → Prop} (h : wp_Md_become rows fresh oldMask oldRows known a1 Q) : qm_MI l yX6_become wsX6_become rmX6_become G [.ref (ad 0), .int a1] (mw G ad forms sizes items moved latest rows fresh oldMask oldRows known drawn label pile parts waitX waitY waitSide waits sign signs many) (fun (r : Int32) (u : IA × IA × IA × Int32) => Q r u.1 u.2.1 u.2.2.1 u.2.2.2) (fun (u : IA × IA × IA × Int32) => mw G ad forms sizes items moved latest u.1 fresh u.2.1 u.2.2.1 u.2.2.2 drawn label pile parts waitX waitY waitSide waits sign signs many) := by
  refine qm_mkI (cc := cX6_become) (maxL := 2) (by decide) rfl (Nat.le_of_ble_eq_true rfl) ?_
  intro X C hret
  replace C : qm_C G 2 X cX6_become wsX6_become RX6 := C
  refine v_lv (lv' := [(0, .ref (ad 0)), (1, .int a1)]) rfl ?_
  unfold wp_Md_become at h
  refine v_aload_n C dX6_become_0 rfl 0 rfl ?_
  refine v_iload_n C dX6_become_1 rfl 1 rfl ?_
  refine v_callVv C (c_Md_becomes l G ad forms sizes items moved latest rows fresh oldMask oldRows known drawn label pile parts waitX waitY waitSide waits sign signs many a1 h) 0 rfl rfl gX6_become_X6_becomes rfl kX6_becomes ⟨rfl, rfl⟩ ⟨Nat.le_of_ble_eq_true rfl, Nat.le_of_ble_eq_true rfl⟩ rfl (Nat.le_of_ble_eq_true rfl) dX6_become_2 (fun u h => ?_)
  obtain ⟨m_rows_1, m_oldMask_1, m_oldRows_1, m_known_1⟩ := u
  try dsimp only at h
  refine v_world (ws' := mw G ad forms sizes items moved latest m_rows_1 fresh m_oldMask_1 m_oldRows_1 m_known_1 drawn label pile parts waitX waitY waitSide waits sign signs many) rfl ?_
  refine v_aload_n C dX6_become_5 rfl 0 rfl ?_
  refine v_iload_n C dX6_become_6 rfl 1 rfl ?_
  refine v_callVi C (c_Md_darkOf l G ad forms sizes items moved latest m_rows_1 fresh m_oldMask_1 m_oldRows_1 m_known_1 drawn label pile parts waitX waitY waitSide waits sign signs many a1 h) 0 rfl rfl gX6_become_X6_darkOf rfl kX6_darkOf ⟨rfl, rfl⟩ ⟨Nat.le_of_ble_eq_true rfl, Nat.le_of_ble_eq_true rfl⟩ rfl (Nat.le_of_ble_eq_true rfl) dX6_become_7 (fun r_1 _ h => ?_)
  try dsimp only at h
  exact hret _ _ _ r_1 (m_rows_1, m_oldMask_1, m_oldRows_1, m_known_1) h rfl dX6_become_10
-- QuarterMasksModel.fill
def rmX6_fill : Room := { frames := 6, cells := 0, slots := 0, locals := 153 }
theorem kX6_fill : yX6_fill.cls = RX6 ∧ yX6_fill.cls ≠ "java/lang/invoke/MethodHandle" ∧ yX6_fill.cls ≠ "java/lang/invoke/VarHandle" ∧ (parseMethodDescriptor yX6_fill.desc).map (fun d => d.parameters.length) = some 6 := by decide +kernel
theorem mX6_fill_w1 : Cond.constantLong RX6 106 (16) ∈ wsX6_fill := List.mem_of_getElem? (i := 1) rfl
def wx_Md_fill_132 (rows : IA) (oldMask : IA) (oldRows : IA) (known : Int32) (a1 : Int32) (Q : Int32 → IA → IA → IA → IA → Int32 → Prop) (x7_2 : Int32) (fresh_2 : IA) : Prop :=
  wp_Md_become rows fresh_2 oldMask oldRows known a1 (fun r_6 m_rows_1 m_oldMask_1 m_oldRows_1 m_known_1 => Q r_6 m_rows_1 fresh_2 m_oldMask_1 m_oldRows_1 m_known_1)
def wl_Md_fill_60 (a2 : Int32) (a3 : Int32) (a4 : Int32) (a5 : Int32) (a6 : Int32) (Kx_1 : Int32 → IA → Prop) : Nat → Int32 → IA → Prop
  | 0, _, _ => False
  | n + 1, x7_1, fresh_1 => (256 ≤ x7_1 → (Kx_1 x7_1 fresh_1)) ∧ (¬ 256 ≤ x7_1 → (wp_Md_in (Int32.toInt64 (jrem x7_1 16)) (Int32.toInt64 a2) (Int32.toInt64 ((a2 + a4) - 1)) (fun r_7 => jn (fun (fresh_3 : IA) => (wl_Md_fill_60 a2 a3 a4 a5 a6 Kx_1 n) (x7_1 + 1) fresh_3) (fun K_1 : IA → Prop => (r_7 = 0 → (K_1 fresh_1)) ∧ (¬ r_7 = 0 → (wp_Md_in (Int32.toInt64 (x7_1 / 16)) (Int32.toInt64 a3) (Int32.toInt64 ((a3 + a5) - 1)) (fun r_8 => (r_8 = 0 → (K_1 fresh_1)) ∧ (¬ r_8 = 0 → (wp_Md_sets fresh_1 (jrem x7_1 16) (x7_1 / 16) a6 (fun m_fresh_2 => K_1 m_fresh_2))))))))))
def wp_Md_fill (rows : IA) (fresh : IA) (oldMask : IA) (oldRows : IA) (known : Int32) (a1 : Int32) (a2 : Int32) (a3 : Int32) (a4 : Int32) (a5 : Int32) (a6 : Int32) (Q : Int32 → IA → IA → IA → IA → Int32 → Prop) : Prop :=
  wp_Md_isMask a1 (fun r_1 => (r_1 = 0 → (Q (-2) rows fresh oldMask oldRows known)) ∧ (¬ r_1 = 0 → (wp_Md_isCell a2 a3 (fun r_2 => (r_2 = 0 → (Q (-2) rows fresh oldMask oldRows known)) ∧ (¬ r_2 = 0 → (wp_Md_in (Int32.toInt64 a4) 0 16 (fun r_3 => (r_3 = 0 → (Q (-2) rows fresh oldMask oldRows known)) ∧ (¬ r_3 = 0 → (wp_Md_in (Int32.toInt64 a5) 0 16 (fun r_4 => (r_4 = 0 → (Q (-2) rows fresh oldMask oldRows known)) ∧ (¬ r_4 = 0 → (wp_Md_isTwo a6 (fun r_5 => (r_5 = 0 → (Q (-2) rows fresh oldMask oldRows known)) ∧ (¬ r_5 = 0 → (wp_Md_starts rows fresh a1 (fun m_fresh_1 => ∃ k_1 : Nat, wl_Md_fill_60 a2 a3 a4 a5 a6 (wx_Md_fill_132 rows oldMask oldRows known a1 Q) k_1 0 m_fresh_1))))))))))))))))
set_option maxHeartbeats 4000000 in
theorem c_Md_fill (l : Launch) (G : GG) (ad : Nat → Nat) (forms : IA) (sizes : IA) (items : IA) (moved : IA) (latest : Int32) (rows : IA) (fresh : IA) (oldMask : IA) (oldRows : IA) (known : Int32) (drawn : Int32) (label : IA) (pile : IA) (parts : Int32) (waitX : IA) (waitY : IA) (waitSide : IA) (waits : Int32) (sign : IA) (signs : Int32) (many : IA) (a1 : Int32) (a2 : Int32) (a3 : Int32) (a4 : Int32) (a5 : Int32) (a6 : Int32) {Q : Int32 → IA → IA → IA → IA → Int32 → Prop} (h : wp_Md_fill rows fresh oldMask oldRows known a1 a2 a3 a4 a5 a6 Q) : qm_MI l yX6_fill wsX6_fill rmX6_fill G [.ref (ad 0), .int a1, .int a2, .int a3, .int a4, .int a5, .int a6] (mw G ad forms sizes items moved latest rows fresh oldMask oldRows known drawn label pile parts waitX waitY waitSide waits sign signs many) (fun (r : Int32) (u : IA × IA × IA × IA × Int32) => Q r u.1 u.2.1 u.2.2.1 u.2.2.2.1 u.2.2.2.2) (fun (u : IA × IA × IA × IA × Int32) => mw G ad forms sizes items moved latest u.1 u.2.1 u.2.2.1 u.2.2.2.1 u.2.2.2.2 drawn label pile parts waitX waitY waitSide waits sign signs many) := by
  refine qm_mkI (cc := cX6_fill) (maxL := 8) (by decide) rfl (Nat.le_of_ble_eq_true rfl) ?_
  intro X C hret
  replace C : qm_C G 8 X cX6_fill wsX6_fill RX6 := C
  refine v_lv (lv' := [(0, .ref (ad 0)), (1, .int a1), (2, .int a2), (3, .int a3), (4, .int a4), (5, .int a5), (6, .int a6)]) rfl ?_
  unfold wp_Md_fill at h
  refine v_iload_n C dX6_fill_0 rfl 1 rfl ?_
  refine v_callSi C (c_Md_isMask l G (mw G ad forms sizes items moved latest rows fresh oldMask oldRows known drawn label pile parts waitX waitY waitSide waits sign signs many) a1 h) gX6_fill_X6_isMask rfl kX6_isMask ⟨rfl, rfl⟩ ⟨Nat.le_of_ble_eq_true rfl, Nat.le_of_ble_eq_true rfl⟩ rfl (Nat.le_of_ble_eq_true rfl) dX6_fill_1 (fun r_1 _ h => ?_)
  try dsimp only at h
  refine v_if_eq C 49 dX6_fill_4 (by decide) (fun c_8 => ?_) (fun c_8 => ?_)
  · replace h := h.1 c_8
    refine v_bipush C (-2) dX6_fill_49 (by decide) ?_
    exact hret _ _ _ (-2) (rows, fresh, oldMask, oldRows, known) h rfl dX6_fill_51
  · replace h := h.2 c_8
    refine v_iload_n C dX6_fill_7 rfl 2 rfl ?_
    refine v_iload_n C dX6_fill_8 rfl 3 rfl ?_
    refine v_callSi C (c_Md_isCell l G (mw G ad forms sizes items moved latest rows fresh oldMask oldRows known drawn label pile parts waitX waitY waitSide waits sign signs many) a2 a3 h) gX6_fill_X6_isCell rfl kX6_isCell ⟨rfl, rfl⟩ ⟨Nat.le_of_ble_eq_true rfl, Nat.le_of_ble_eq_true rfl⟩ rfl (Nat.le_of_ble_eq_true rfl) dX6_fill_9 (fun r_2 _ h => ?_)
    try dsimp only at h
    refine v_if_eq C 49 dX6_fill_12 (by decide) (fun c_7 => ?_) (fun c_7 => ?_)
    · replace h := h.1 c_7
      refine v_bipush C (-2) dX6_fill_49 (by decide) ?_
      exact hret _ _ _ (-2) (rows, fresh, oldMask, oldRows, known) h rfl dX6_fill_51
    · replace h := h.2 c_7
      refine v_iload C dX6_fill_15 4 rfl ?_
      refine v_i2l C dX6_fill_17 ?_
      refine v_lconst C 0 dX6_fill_18 (by decide) ?_
      refine v_ldc2 C 16 mX6_fill_w1 dX6_fill_19 ?_
      refine v_callSi C (c_Md_in l G (mw G ad forms sizes items moved latest rows fresh oldMask oldRows known drawn label pile parts waitX waitY waitSide waits sign signs many) (Int32.toInt64 a4) 0 16 h) gX6_fill_X6_in rfl kX6_in ⟨rfl, rfl⟩ ⟨Nat.le_of_ble_eq_true rfl, Nat.le_of_ble_eq_true rfl⟩ rfl (Nat.le_of_ble_eq_true rfl) dX6_fill_22 (fun r_3 _ h => ?_)
      try dsimp only at h
      refine v_if_eq C 49 dX6_fill_25 (by decide) (fun c_6 => ?_) (fun c_6 => ?_)
      · replace h := h.1 c_6
        refine v_bipush C (-2) dX6_fill_49 (by decide) ?_
        exact hret _ _ _ (-2) (rows, fresh, oldMask, oldRows, known) h rfl dX6_fill_51
      · replace h := h.2 c_6
        refine v_iload C dX6_fill_28 5 rfl ?_
        refine v_i2l C dX6_fill_30 ?_
        refine v_lconst C 0 dX6_fill_31 (by decide) ?_
        refine v_ldc2 C 16 mX6_fill_w1 dX6_fill_32 ?_
        refine v_callSi C (c_Md_in l G (mw G ad forms sizes items moved latest rows fresh oldMask oldRows known drawn label pile parts waitX waitY waitSide waits sign signs many) (Int32.toInt64 a5) 0 16 h) gX6_fill_X6_in rfl kX6_in ⟨rfl, rfl⟩ ⟨Nat.le_of_ble_eq_true rfl, Nat.le_of_ble_eq_true rfl⟩ rfl (Nat.le_of_ble_eq_true rfl) dX6_fill_35 (fun r_4 _ h => ?_)
        try dsimp only at h
        refine v_if_eq C 49 dX6_fill_38 (by decide) (fun c_5 => ?_) (fun c_5 => ?_)
        · replace h := h.1 c_5
          refine v_bipush C (-2) dX6_fill_49 (by decide) ?_
          exact hret _ _ _ (-2) (rows, fresh, oldMask, oldRows, known) h rfl dX6_fill_51
        · replace h := h.2 c_5
          refine v_iload C dX6_fill_41 6 rfl ?_
          refine v_callSi C (c_Md_isTwo l G (mw G ad forms sizes items moved latest rows fresh oldMask oldRows known drawn label pile parts waitX waitY waitSide waits sign signs many) a6 h) gX6_fill_X6_isTwo rfl kX6_isTwo ⟨rfl, rfl⟩ ⟨Nat.le_of_ble_eq_true rfl, Nat.le_of_ble_eq_true rfl⟩ rfl (Nat.le_of_ble_eq_true rfl) dX6_fill_43 (fun r_5 _ h => ?_)
          try dsimp only at h
          refine v_if_ne C 52 dX6_fill_46 (by decide) (fun c_4 => ?_) (fun c_4 => ?_)
          · replace h := h.2 c_4
            refine v_aload_n C dX6_fill_52 rfl 0 rfl ?_
            refine v_iload_n C dX6_fill_53 rfl 1 rfl ?_
            refine v_callVv C (c_Md_starts l G ad forms sizes items moved latest rows fresh oldMask oldRows known drawn label pile parts waitX waitY waitSide waits sign signs many a1 h) 0 rfl rfl gX6_fill_X6_starts rfl kX6_starts ⟨rfl, rfl⟩ ⟨Nat.le_of_ble_eq_true rfl, Nat.le_of_ble_eq_true rfl⟩ rfl (Nat.le_of_ble_eq_true rfl) dX6_fill_54 (fun m_fresh_1 h => ?_)
            try dsimp only at h
            refine v_world (ws' := mw G ad forms sizes items moved latest rows m_fresh_1 oldMask oldRows known drawn label pile parts waitX waitY waitSide waits sign signs many) rfl ?_
            refine v_iconst C 0 dX6_fill_57 (by decide) ?_
            refine v_istore C [(7, .int 0), (0, .ref (ad 0)), (1, .int a1), (2, .int a2), (3, .int a3), (4, .int a4), (5, .int a5), (6, .int a6)] dX6_fill_58 (by decide) rfl ?_
            have hx_1 : ∀ (x7_2 : Int32) (fresh_2 : IA), (wx_Md_fill_132 rows oldMask oldRows known a1 Q) x7_2 fresh_2 → qm_V l G rmX6_fill 8 X (mw G ad forms sizes items moved latest rows fresh_2 oldMask oldRows known drawn label pile parts waitX waitY waitSide waits sign signs many) [(7, .int x7_2), (0, .ref (ad 0)), (1, .int a1), (2, .int a2), (3, .int a3), (4, .int a4), (5, .int a5), (6, .int a6)] 132 [] := by
              intro x7_2 fresh_2 h
              unfold wx_Md_fill_132 at h
              refine v_aload_n C dX6_fill_132 rfl 1 rfl ?_
              refine v_iload_n C dX6_fill_133 rfl 2 rfl ?_
              refine v_callVi C (c_Md_become l G ad forms sizes items moved latest rows fresh_2 oldMask oldRows known drawn label pile parts waitX waitY waitSide waits sign signs many a1 h) 0 rfl rfl gX6_fill_X6_become rfl kX6_become ⟨rfl, rfl⟩ ⟨Nat.le_of_ble_eq_true rfl, Nat.le_of_ble_eq_true rfl⟩ rfl (Nat.le_of_ble_eq_true rfl) dX6_fill_134 (fun r_6 u h => ?_)
              obtain ⟨m_rows_1, m_oldMask_1, m_oldRows_1, m_known_1⟩ := u
              try dsimp only at h
              refine v_world (ws' := mw G ad forms sizes items moved latest m_rows_1 fresh_2 m_oldMask_1 m_oldRows_1 m_known_1 drawn label pile parts waitX waitY waitSide waits sign signs many) rfl ?_
              exact hret _ _ _ r_6 (m_rows_1, fresh_2, m_oldMask_1, m_oldRows_1, m_known_1) h rfl dX6_fill_137
            have hl_1 : ∀ n_1 : Nat, ∀ (x7_1 : Int32) (fresh_1 : IA), wl_Md_fill_60 a2 a3 a4 a5 a6 (wx_Md_fill_132 rows oldMask oldRows known a1 Q) n_1 x7_1 fresh_1 → qm_V l G rmX6_fill 8 X (mw G ad forms sizes items moved latest rows fresh_1 oldMask oldRows known drawn label pile parts waitX waitY waitSide waits sign signs many) [(7, .int x7_1), (0, .ref (ad 0)), (1, .int a1), (2, .int a2), (3, .int a3), (4, .int a4), (5, .int a5), (6, .int a6)] 60 [] := by
              intro n_1
              induction n_1 with
              | zero =>
                intro x7_1 fresh_1 h
                exact False.elim h
              | succ n_1 ih_1 =>
                intro x7_1 fresh_1 h
                rw [wl_Md_fill_60] at h
                refine v_iload C dX6_fill_60 0 rfl ?_
                refine v_sipush C 256 dX6_fill_62 (by decide) ?_
                refine v_icmp_ge C 132 dX6_fill_65 (by decide) (fun c_3 => ?_) (fun c_3 => ?_)
                · replace h := h.1 c_3
                  exact hx_1 x7_1 fresh_1 h
                · replace h := h.2 c_3
                  refine v_iload C dX6_fill_68 0 rfl ?_
                  refine v_bipush C 16 dX6_fill_70 (by decide) ?_
                  refine v_irem C dX6_fill_72 (by decide) ?_
                  refine v_i2l C dX6_fill_73 ?_
                  refine v_iload_n C dX6_fill_74 rfl 3 rfl ?_
                  refine v_i2l C dX6_fill_75 ?_
                  refine v_iload_n C dX6_fill_76 rfl 3 rfl ?_
                  refine v_iload C dX6_fill_77 5 rfl ?_
                  refine v_iadd C dX6_fill_79 ?_
                  refine v_iconst C 1 dX6_fill_80 (by decide) ?_
                  refine v_isub C dX6_fill_81 ?_
                  refine v_i2l C dX6_fill_82 ?_
                  refine v_callSi C (c_Md_in l G (mw G ad forms sizes items moved latest rows fresh_1 oldMask oldRows known drawn label pile parts waitX waitY waitSide waits sign signs many) (Int32.toInt64 (jrem x7_1 16)) (Int32.toInt64 a2) (Int32.toInt64 ((a2 + a4) - 1)) h) gX6_fill_X6_in rfl kX6_in ⟨rfl, rfl⟩ ⟨Nat.le_of_ble_eq_true rfl, Nat.le_of_ble_eq_true rfl⟩ rfl (Nat.le_of_ble_eq_true rfl) dX6_fill_83 (fun r_7 _ h => ?_)
                  try dsimp only at h
                  have hJ_1 : ∀ (fresh_3 : IA), (fun (fresh_3 : IA) => (wl_Md_fill_60 a2 a3 a4 a5 a6 (wx_Md_fill_132 rows oldMask oldRows known a1 Q) n_1) (x7_1 + 1) fresh_3) fresh_3 → qm_V l G rmX6_fill 8 X (mw G ad forms sizes items moved latest rows fresh_3 oldMask oldRows known drawn label pile parts waitX waitY waitSide waits sign signs many) [(7, .int x7_1), (0, .ref (ad 0)), (1, .int a1), (2, .int a2), (3, .int a3), (4, .int a4), (5, .int a5), (6, .int a6)] 126 [] := by
                    intro fresh_3 h
                    try dsimp only at h
                    refine v_iinc C (x7_1 + 1) 0 [(7, .int (x7_1 + 1)), (0, .ref (ad 0)), (1, .int a1), (2, .int a2), (3, .int a3), (4, .int a4), (5, .int a5), (6, .int a6)] dX6_fill_126 rfl rfl (by decide) rfl ?_
                    refine v_goto C 60 dX6_fill_129 (by decide) ?_
                    exact ih_1 (x7_1 + 1) fresh_3 h
                  replace h := jn_use h
                  try dsimp only at h
                  refine v_if_eq C 126 dX6_fill_86 (by decide) (fun c_2 => ?_) (fun c_2 => ?_)
                  · replace h := h.1 c_2
                    exact hJ_1 fresh_1 h
                  · replace h := h.2 c_2
                    refine v_iload C dX6_fill_89 0 rfl ?_
                    refine v_bipush C 16 dX6_fill_91 (by decide) ?_
                    refine v_idiv C dX6_fill_93 (by decide) ?_
                    refine v_i2l C dX6_fill_94 ?_
                    refine v_iload_n C dX6_fill_95 rfl 4 rfl ?_
                    refine v_i2l C dX6_fill_96 ?_
                    refine v_iload_n C dX6_fill_97 rfl 4 rfl ?_
                    refine v_iload C dX6_fill_98 6 rfl ?_
                    refine v_iadd C dX6_fill_100 ?_
                    refine v_iconst C 1 dX6_fill_101 (by decide) ?_
                    refine v_isub C dX6_fill_102 ?_
                    refine v_i2l C dX6_fill_103 ?_
                    refine v_callSi C (c_Md_in l G (mw G ad forms sizes items moved latest rows fresh_1 oldMask oldRows known drawn label pile parts waitX waitY waitSide waits sign signs many) (Int32.toInt64 (x7_1 / 16)) (Int32.toInt64 a3) (Int32.toInt64 ((a3 + a5) - 1)) h) gX6_fill_X6_in rfl kX6_in ⟨rfl, rfl⟩ ⟨Nat.le_of_ble_eq_true rfl, Nat.le_of_ble_eq_true rfl⟩ rfl (Nat.le_of_ble_eq_true rfl) dX6_fill_104 (fun r_8 _ h => ?_)
                    try dsimp only at h
                    refine v_if_eq C 126 dX6_fill_107 (by decide) (fun c_1 => ?_) (fun c_1 => ?_)
                    · replace h := h.1 c_1
                      exact hJ_1 fresh_1 h
                    · replace h := h.2 c_1
                      refine v_aload_n C dX6_fill_110 rfl 1 rfl ?_
                      refine v_iload C dX6_fill_111 0 rfl ?_
                      refine v_bipush C 16 dX6_fill_113 (by decide) ?_
                      refine v_irem C dX6_fill_115 (by decide) ?_
                      refine v_iload C dX6_fill_116 0 rfl ?_
                      refine v_bipush C 16 dX6_fill_118 (by decide) ?_
                      refine v_idiv C dX6_fill_120 (by decide) ?_
                      refine v_iload C dX6_fill_121 7 rfl ?_
                      refine v_callVv C (c_Md_sets l G ad forms sizes items moved latest rows fresh_1 oldMask oldRows known drawn label pile parts waitX waitY waitSide waits sign signs many (jrem x7_1 16) (x7_1 / 16) a6 h) 0 rfl rfl gX6_fill_X6_sets rfl kX6_sets ⟨rfl, rfl⟩ ⟨Nat.le_of_ble_eq_true rfl, Nat.le_of_ble_eq_true rfl⟩ rfl (Nat.le_of_ble_eq_true rfl) dX6_fill_123 (fun m_fresh_2 h => ?_)
                      try dsimp only at h
                      refine v_world (ws' := mw G ad forms sizes items moved latest rows m_fresh_2 oldMask oldRows known drawn label pile parts waitX waitY waitSide waits sign signs many) rfl ?_
                      exact hJ_1 m_fresh_2 h
            obtain ⟨k_1, h⟩ := h
            exact hl_1 k_1 0 m_fresh_1 h
          · replace h := h.1 c_4
            refine v_bipush C (-2) dX6_fill_49 (by decide) ?_
            exact hret _ _ _ (-2) (rows, fresh, oldMask, oldRows, known) h rfl dX6_fill_51
-- QuarterMasksModel.lot
def rmX6_lot : Room := { frames := 1, cells := 0, slots := 0, locals := 40 }
theorem kX6_lot : yX6_lot.cls = RX6 ∧ yX6_lot.cls ≠ "java/lang/invoke/MethodHandle" ∧ yX6_lot.cls ≠ "java/lang/invoke/VarHandle" ∧ (parseMethodDescriptor yX6_lot.desc).map (fun d => d.parameters.length) = some 1 := by decide +kernel
theorem mX6_lot_w1 : Cond.constant RX6 121 (1103515245) ∈ wsX6_lot := List.mem_of_getElem? (i := 1) rfl
theorem mX6_lot_w2 : Cond.fieldLink RX6 122 "QuarterMasksModel" "drawn" "I" ∈ wsX6_lot := List.mem_of_getElem? (i := 2) rfl
theorem iX6_lot_6 : ∀ w ∈ wsX60, w ∈ wsX6_lot := fun w h => List.mem_cons_of_mem _ (List.mem_append_right _ h)
def wp_Md_lot (drawn : Int32) (a1 : Int32) (Q : Int32 → Int32 → Prop) : Prop :=
  ∀ v_drawn_1 : Int32, v_drawn_1 = ((1103515245 * drawn) + 12345) → (¬ a1 = 0 ∧ (Q (jrem (jush v_drawn_1 16) a1) v_drawn_1))
set_option maxHeartbeats 4000000 in
theorem c_Md_lot (l : Launch) (G : GG) (ad : Nat → Nat) (forms : IA) (sizes : IA) (items : IA) (moved : IA) (latest : Int32) (rows : IA) (fresh : IA) (oldMask : IA) (oldRows : IA) (known : Int32) (drawn : Int32) (label : IA) (pile : IA) (parts : Int32) (waitX : IA) (waitY : IA) (waitSide : IA) (waits : Int32) (sign : IA) (signs : Int32) (many : IA) (a1 : Int32) {Q : Int32 → Int32 → Prop} (h : wp_Md_lot drawn a1 Q) : qm_MI l yX6_lot wsX6_lot rmX6_lot G [.ref (ad 0), .int a1] (mw G ad forms sizes items moved latest rows fresh oldMask oldRows known drawn label pile parts waitX waitY waitSide waits sign signs many) (fun (r : Int32) (u : Int32) => Q r u) (fun (u : Int32) => mw G ad forms sizes items moved latest rows fresh oldMask oldRows known u label pile parts waitX waitY waitSide waits sign signs many) := by
  refine qm_mkI (cc := cX6_lot) (maxL := 2) (by decide) rfl (Nat.le_of_ble_eq_true rfl) ?_
  intro X C hret
  replace C : qm_C G 2 X cX6_lot wsX6_lot RX6 := C
  refine v_lv (lv' := [(0, .ref (ad 0)), (1, .int a1)]) rfl ?_
  unfold wp_Md_lot at h
  refine v_aload_n C dX6_lot_0 rfl 0 rfl ?_
  refine v_ldc C 1103515245 mX6_lot_w1 dX6_lot_1 ?_
  refine v_aload_n C dX6_lot_3 rfl 0 rfl ?_
  refine v_get C iX6_lot_6 0 rfl rfl 10 (by decide) mX6_lot_w2 rfl rfl dX6_lot_4 ?_
  refine v_imul C dX6_lot_7 ?_
  refine v_sipush C 12345 dX6_lot_8 (by decide) ?_
  refine v_iadd C dX6_lot_11 ?_
  refine v_topi (fun v_drawn_1 ev_drawn_1 => ?_)
  replace h := h v_drawn_1 ev_drawn_1
  refine v_put C iX6_lot_6 tyX6_ok nmX6 0 rfl rfl 10 (by decide) mX6_lot_w2 rfl rfl rfl rfl rfl (Nat.le_of_ble_eq_true rfl) (ws' := mw G ad forms sizes items moved latest rows fresh oldMask oldRows known v_drawn_1 label pile parts waitX waitY waitSide waits sign signs many) rfl dX6_lot_12 ?_
  refine v_aload_n C dX6_lot_15 rfl 0 rfl ?_
  refine v_get C iX6_lot_6 0 rfl rfl 10 (by decide) mX6_lot_w2 rfl rfl dX6_lot_16 ?_
  refine v_bipush C 16 dX6_lot_19 (by decide) ?_
  refine v_iushr C dX6_lot_21 ?_
  refine v_iload_n C dX6_lot_22 rfl 1 rfl ?_
  obtain ⟨hz_1, h⟩ := h
  refine v_irem C dX6_lot_23 hz_1 ?_
  exact hret _ _ _ (jrem (jush v_drawn_1 16) a1) v_drawn_1 h rfl dX6_lot_24
-- QuarterMasksModel.dots
def rmX6_dots : Room := { frames := 6, cells := 0, slots := 0, locals := 153 }
theorem kX6_dots : yX6_dots.cls = RX6 ∧ yX6_dots.cls ≠ "java/lang/invoke/MethodHandle" ∧ yX6_dots.cls ≠ "java/lang/invoke/VarHandle" ∧ (parseMethodDescriptor yX6_dots.desc).map (fun d => d.parameters.length) = some 3 := by decide +kernel
theorem mX6_dots_w1 : Cond.constantLong RX6 125 (255) ∈ wsX6_dots := List.mem_of_getElem? (i := 1) rfl
theorem mX6_dots_w2 : Cond.fieldLink RX6 122 "QuarterMasksModel" "drawn" "I" ∈ wsX6_dots := List.mem_of_getElem? (i := 2) rfl
theorem iX6_dots_6 : ∀ w ∈ wsX60, w ∈ wsX6_dots := fun w h => List.mem_cons_of_mem _ (List.mem_append_right _ h)
theorem mX6_dots_w3 : Cond.fieldLink RX6 25 "QuarterMasksModel" "fresh" "[I" ∈ wsX6_dots := List.mem_of_getElem? (i := 3) rfl
def wx_Md_dots_76 (rows : IA) (oldMask : IA) (oldRows : IA) (known : Int32) (a1 : Int32) (Q : Int32 → IA → IA → IA → IA → Int32 → Int32 → Prop) (x4_2 : Int32) (fresh_2 : IA) (drawn_2 : Int32) : Prop :=
  wp_Md_become rows fresh_2 oldMask oldRows known a1 (fun r_3 m_rows_1 m_oldMask_1 m_oldRows_1 m_known_1 => Q r_3 m_rows_1 fresh_2 m_oldMask_1 m_oldRows_1 m_known_1 drawn_2)
def wl_Md_dots_35 (a3 : Int32) (Kx_1 : Int32 → IA → Int32 → Prop) : Nat → Int32 → IA → Int32 → Prop
  | 0, _, _, _ => False
  | n + 1, x4_1, fresh_1, drawn_1 => (a3 ≤ x4_1 → (Kx_1 x4_1 fresh_1 drawn_1)) ∧ (¬ a3 ≤ x4_1 → (wp_Md_lot drawn_1 256 (fun r_4 m_drawn_1 => vp_in (r_4 / 16) 16 ∧ (vp_in (r_4 / 16) 16 ∧ (∀ f_fresh_1 : IA, f_fresh_1 = upd fresh_1 (r_4 / 16).toNatClampNeg ((fresh_1 (r_4 / 16).toNatClampNeg) ^^^ (jshl 1 (jrem r_4 16))) → ((wl_Md_dots_35 a3 Kx_1 n) (x4_1 + 1) f_fresh_1 m_drawn_1))))))
def wp_Md_dots (rows : IA) (fresh : IA) (oldMask : IA) (oldRows : IA) (known : Int32) (drawn : Int32) (a1 : Int32) (a2 : Int32) (a3 : Int32) (Q : Int32 → IA → IA → IA → IA → Int32 → Int32 → Prop) : Prop :=
  wp_Md_isMask a1 (fun r_1 => (r_1 = 0 → (Q (-2) rows fresh oldMask oldRows known drawn)) ∧ (¬ r_1 = 0 → (wp_Md_in (Int32.toInt64 a3) 0 255 (fun r_2 => (r_2 = 0 → (Q (-2) rows fresh oldMask oldRows known drawn)) ∧ (¬ r_2 = 0 → (wp_Md_starts rows fresh a1 (fun m_fresh_1 => ∃ k_1 : Nat, wl_Md_dots_35 a3 (wx_Md_dots_76 rows oldMask oldRows known a1 Q) k_1 0 m_fresh_1 a2)))))))
set_option maxHeartbeats 4000000 in
theorem c_Md_dots (l : Launch) (G : GG) (ad : Nat → Nat) (forms : IA) (sizes : IA) (items : IA) (moved : IA) (latest : Int32) (rows : IA) (fresh : IA) (oldMask : IA) (oldRows : IA) (known : Int32) (drawn : Int32) (label : IA) (pile : IA) (parts : Int32) (waitX : IA) (waitY : IA) (waitSide : IA) (waits : Int32) (sign : IA) (signs : Int32) (many : IA) (a1 : Int32) (a2 : Int32) (a3 : Int32) {Q : Int32 → IA → IA → IA → IA → Int32 → Int32 → Prop} (h : wp_Md_dots rows fresh oldMask oldRows known drawn a1 a2 a3 Q) : qm_MI l yX6_dots wsX6_dots rmX6_dots G [.ref (ad 0), .int a1, .int a2, .int a3] (mw G ad forms sizes items moved latest rows fresh oldMask oldRows known drawn label pile parts waitX waitY waitSide waits sign signs many) (fun (r : Int32) (u : IA × IA × IA × IA × Int32 × Int32) => Q r u.1 u.2.1 u.2.2.1 u.2.2.2.1 u.2.2.2.2.1 u.2.2.2.2.2) (fun (u : IA × IA × IA × IA × Int32 × Int32) => mw G ad forms sizes items moved latest u.1 u.2.1 u.2.2.1 u.2.2.2.1 u.2.2.2.2.1 u.2.2.2.2.2 label pile parts waitX waitY waitSide waits sign signs many) := by
  refine qm_mkI (cc := cX6_dots) (maxL := 6) (by decide) rfl (Nat.le_of_ble_eq_true rfl) ?_
  intro X C hret
  replace C : qm_C G 6 X cX6_dots wsX6_dots RX6 := C
  refine v_lv (lv' := [(0, .ref (ad 0)), (1, .int a1), (2, .int a2), (3, .int a3)]) rfl ?_
  unfold wp_Md_dots at h
  refine v_iload_n C dX6_dots_0 rfl 1 rfl ?_
  refine v_callSi C (c_Md_isMask l G (mw G ad forms sizes items moved latest rows fresh oldMask oldRows known drawn label pile parts waitX waitY waitSide waits sign signs many) a1 h) gX6_dots_X6_isMask rfl kX6_isMask ⟨rfl, rfl⟩ ⟨Nat.le_of_ble_eq_true rfl, Nat.le_of_ble_eq_true rfl⟩ rfl (Nat.le_of_ble_eq_true rfl) dX6_dots_1 (fun r_1 _ h => ?_)
  try dsimp only at h
  refine v_if_eq C 19 dX6_dots_4 (by decide) (fun c_3 => ?_) (fun c_3 => ?_)
  · replace h := h.1 c_3
    refine v_bipush C (-2) dX6_dots_19 (by decide) ?_
    exact hret _ _ _ (-2) (rows, fresh, oldMask, oldRows, known, drawn) h rfl dX6_dots_21
  · replace h := h.2 c_3
    refine v_iload_n C dX6_dots_7 rfl 3 rfl ?_
    refine v_i2l C dX6_dots_8 ?_
    refine v_lconst C 0 dX6_dots_9 (by decide) ?_
    refine v_ldc2 C 255 mX6_dots_w1 dX6_dots_10 ?_
    refine v_callSi C (c_Md_in l G (mw G ad forms sizes items moved latest rows fresh oldMask oldRows known drawn label pile parts waitX waitY waitSide waits sign signs many) (Int32.toInt64 a3) 0 255 h) gX6_dots_X6_in rfl kX6_in ⟨rfl, rfl⟩ ⟨Nat.le_of_ble_eq_true rfl, Nat.le_of_ble_eq_true rfl⟩ rfl (Nat.le_of_ble_eq_true rfl) dX6_dots_13 (fun r_2 _ h => ?_)
    try dsimp only at h
    refine v_if_ne C 22 dX6_dots_16 (by decide) (fun c_2 => ?_) (fun c_2 => ?_)
    · replace h := h.2 c_2
      refine v_aload_n C dX6_dots_22 rfl 0 rfl ?_
      refine v_iload_n C dX6_dots_23 rfl 1 rfl ?_
      refine v_callVv C (c_Md_starts l G ad forms sizes items moved latest rows fresh oldMask oldRows known drawn label pile parts waitX waitY waitSide waits sign signs many a1 h) 0 rfl rfl gX6_dots_X6_starts rfl kX6_starts ⟨rfl, rfl⟩ ⟨Nat.le_of_ble_eq_true rfl, Nat.le_of_ble_eq_true rfl⟩ rfl (Nat.le_of_ble_eq_true rfl) dX6_dots_24 (fun m_fresh_1 h => ?_)
      try dsimp only at h
      refine v_world (ws' := mw G ad forms sizes items moved latest rows m_fresh_1 oldMask oldRows known drawn label pile parts waitX waitY waitSide waits sign signs many) rfl ?_
      refine v_aload_n C dX6_dots_27 rfl 0 rfl ?_
      refine v_iload_n C dX6_dots_28 rfl 2 rfl ?_
      refine v_put C iX6_dots_6 tyX6_ok nmX6 0 rfl rfl 10 (by decide) mX6_dots_w2 rfl rfl rfl rfl rfl (Nat.le_of_ble_eq_true rfl) (ws' := mw G ad forms sizes items moved latest rows m_fresh_1 oldMask oldRows known a2 label pile parts waitX waitY waitSide waits sign signs many) rfl dX6_dots_29 ?_
      refine v_iconst C 0 dX6_dots_32 (by decide) ?_
      refine v_istore C [(4, .int 0), (0, .ref (ad 0)), (1, .int a1), (2, .int a2), (3, .int a3)] dX6_dots_33 (by decide) rfl ?_
      have hx_1 : ∀ (x4_2 : Int32) (fresh_2 : IA) (drawn_2 : Int32), (wx_Md_dots_76 rows oldMask oldRows known a1 Q) x4_2 fresh_2 drawn_2 → qm_V l G rmX6_dots 6 X (mw G ad forms sizes items moved latest rows fresh_2 oldMask oldRows known drawn_2 label pile parts waitX waitY waitSide waits sign signs many) [(4, .int x4_2), (0, .ref (ad 0)), (1, .int a1), (2, .int a2), (3, .int a3)] 76 [] := by
        intro x4_2 fresh_2 drawn_2 h
        unfold wx_Md_dots_76 at h
        refine v_aload_n C dX6_dots_76 rfl 1 rfl ?_
        refine v_iload_n C dX6_dots_77 rfl 2 rfl ?_
        refine v_callVi C (c_Md_become l G ad forms sizes items moved latest rows fresh_2 oldMask oldRows known drawn_2 label pile parts waitX waitY waitSide waits sign signs many a1 h) 0 rfl rfl gX6_dots_X6_become rfl kX6_become ⟨rfl, rfl⟩ ⟨Nat.le_of_ble_eq_true rfl, Nat.le_of_ble_eq_true rfl⟩ rfl (Nat.le_of_ble_eq_true rfl) dX6_dots_78 (fun r_3 u h => ?_)
        obtain ⟨m_rows_1, m_oldMask_1, m_oldRows_1, m_known_1⟩ := u
        try dsimp only at h
        refine v_world (ws' := mw G ad forms sizes items moved latest m_rows_1 fresh_2 m_oldMask_1 m_oldRows_1 m_known_1 drawn_2 label pile parts waitX waitY waitSide waits sign signs many) rfl ?_
        exact hret _ _ _ r_3 (m_rows_1, fresh_2, m_oldMask_1, m_oldRows_1, m_known_1, drawn_2) h rfl dX6_dots_81
      have hl_1 : ∀ n_1 : Nat, ∀ (x4_1 : Int32) (fresh_1 : IA) (drawn_1 : Int32), wl_Md_dots_35 a3 (wx_Md_dots_76 rows oldMask oldRows known a1 Q) n_1 x4_1 fresh_1 drawn_1 → qm_V l G rmX6_dots 6 X (mw G ad forms sizes items moved latest rows fresh_1 oldMask oldRows known drawn_1 label pile parts waitX waitY waitSide waits sign signs many) [(4, .int x4_1), (0, .ref (ad 0)), (1, .int a1), (2, .int a2), (3, .int a3)] 35 [] := by
        intro n_1
        induction n_1 with
        | zero =>
          intro x4_1 fresh_1 drawn_1 h
          exact False.elim h
        | succ n_1 ih_1 =>
          intro x4_1 fresh_1 drawn_1 h
          rw [wl_Md_dots_35] at h
          refine v_iload C dX6_dots_35 0 rfl ?_
          refine v_iload_n C dX6_dots_37 rfl 4 rfl ?_
          refine v_icmp_ge C 76 dX6_dots_38 (by decide) (fun c_1 => ?_) (fun c_1 => ?_)
          · replace h := h.1 c_1
            exact hx_1 x4_1 fresh_1 drawn_1 h
          · replace h := h.2 c_1
            refine v_aload_n C dX6_dots_41 rfl 1 rfl ?_
            refine v_sipush C 256 dX6_dots_42 (by decide) ?_
            refine v_callVi C (c_Md_lot l G ad forms sizes items moved latest rows fresh_1 oldMask oldRows known drawn_1 label pile parts waitX waitY waitSide waits sign signs many 256 h) 0 rfl rfl gX6_dots_X6_lot rfl kX6_lot ⟨rfl, rfl⟩ ⟨Nat.le_of_ble_eq_true rfl, Nat.le_of_ble_eq_true rfl⟩ rfl (Nat.le_of_ble_eq_true rfl) dX6_dots_45 (fun r_4 m_drawn_1 h => ?_)
            try dsimp only at h
            refine v_world (ws' := mw G ad forms sizes items moved latest rows fresh_1 oldMask oldRows known m_drawn_1 label pile parts waitX waitY waitSide waits sign signs many) rfl ?_
            refine v_istore C [(5, .int r_4), (4, .int x4_1), (0, .ref (ad 0)), (1, .int a1), (2, .int a2), (3, .int a3)] dX6_dots_48 (by decide) rfl ?_
            refine v_aload_n C dX6_dots_50 rfl 2 rfl ?_
            refine v_get C iX6_dots_6 0 rfl rfl 6 (by decide) mX6_dots_w3 rfl rfl dX6_dots_51 ?_
            refine v_iload C dX6_dots_54 0 rfl ?_
            refine v_bipush C 16 dX6_dots_56 (by decide) ?_
            refine v_idiv C dX6_dots_58 (by decide) ?_
            refine v_dup2 C dX6_dots_59 rfl rfl ?_
            obtain ⟨hin_1, h⟩ := h
            refine v_iald C 6 rfl hin_1 dX6_dots_60 ?_
            refine v_iconst C 1 dX6_dots_61 (by decide) ?_
            refine v_iload C dX6_dots_62 0 rfl ?_
            refine v_bipush C 16 dX6_dots_64 (by decide) ?_
            refine v_irem C dX6_dots_66 (by decide) ?_
            refine v_ishl C dX6_dots_67 ?_
            refine v_ixor C dX6_dots_68 ?_
            obtain ⟨hin_2, h⟩ := h
            obtain ⟨f_fresh_1, ef_fresh_1⟩ : ∃ y : IA, y = upd fresh_1 (r_4 / 16).toNatClampNeg ((fresh_1 (r_4 / 16).toNatClampNeg) ^^^ (jshl 1 (jrem r_4 16))) := ⟨_, rfl⟩
            replace h := h f_fresh_1 ef_fresh_1
            refine v_iast C 6 rfl (ws' := mw G ad forms sizes items moved latest rows f_fresh_1 oldMask oldRows known m_drawn_1 label pile parts waitX waitY waitSide waits sign signs many) (by subst ef_fresh_1; exact rfl) hin_2 dX6_dots_69 ?_
            refine v_iinc C (x4_1 + 1) 1 [(4, .int (x4_1 + 1)), (5, .int r_4), (0, .ref (ad 0)), (1, .int a1), (2, .int a2), (3, .int a3)] dX6_dots_70 rfl rfl (by decide) rfl ?_
            refine v_goto C 35 dX6_dots_73 (by decide) ?_
            refine v_perm [0, 2, 3, 4, 5] rfl ?_
            exact ih_1 (x4_1 + 1) f_fresh_1 m_drawn_1 h
      obtain ⟨k_1, h⟩ := h
      exact hl_1 k_1 0 m_fresh_1 a2 h
    · replace h := h.1 c_2
      refine v_bipush C (-2) dX6_dots_19 (by decide) ?_
      exact hret _ _ _ (-2) (rows, fresh, oldMask, oldRows, known, drawn) h rfl dX6_dots_21
-- QuarterMasksModel.join
def rmX6_join : Room := { frames := 6, cells := 0, slots := 0, locals := 153 }
theorem kX6_join : yX6_join.cls = RX6 ∧ yX6_join.cls ≠ "java/lang/invoke/MethodHandle" ∧ yX6_join.cls ≠ "java/lang/invoke/VarHandle" ∧ (parseMethodDescriptor yX6_join.desc).map (fun d => d.parameters.length) = some 4 := by decide +kernel
theorem mX6_join_w1 : Cond.constantLong RX6 63 (3) ∈ wsX6_join := List.mem_of_getElem? (i := 1) rfl
theorem mX6_join_w2 : Cond.fieldLink RX6 22 "QuarterMasksModel" "rows" "[I" ∈ wsX6_join := List.mem_of_getElem? (i := 2) rfl
theorem iX6_join_6 : ∀ w ∈ wsX60, w ∈ wsX6_join := fun w h => List.mem_cons_of_mem _ (List.mem_append_right _ h)
theorem mX6_join_w3 : Cond.fieldLink RX6 25 "QuarterMasksModel" "fresh" "[I" ∈ wsX6_join := List.mem_of_getElem? (i := 3) rfl
def wx_Md_join_133 (rows : IA) (oldMask : IA) (oldRows : IA) (known : Int32) (a4 : Int32) (Q : Int32 → IA → IA → IA → IA → Int32 → Prop) (x5_2 : Int32) (fresh_2 : IA) : Prop :=
  wp_Md_become rows fresh_2 oldMask oldRows known a4 (fun r_5 m_rows_1 m_oldMask_1 m_oldRows_1 m_known_1 => Q r_5 m_rows_1 fresh_2 m_oldMask_1 m_oldRows_1 m_known_1)
def wj_Md_join_126 (x5_1 : Int32) (fresh_1 : IA) (Kh_1 : Int32 → IA → Prop) (t_1 : Int32) : Prop :=
  vp_in x5_1 16 ∧ (∀ f_fresh_1 : IA, f_fresh_1 = upd fresh_1 x5_1.toNatClampNeg t_1 → (Kh_1 (x5_1 + 1) f_fresh_1))
def wl_Md_join_40 (rows : IA) (a1 : Int32) (a2 : Int32) (a3 : Int32) (Kx_1 : Int32 → IA → Prop) : Nat → Int32 → IA → Prop
  | 0, _, _ => False
  | n + 1, x5_1, fresh_1 => (16 ≤ x5_1 → (Kx_1 x5_1 fresh_1)) ∧ (¬ 16 ≤ x5_1 → (vp_in ((16 * a2) + x5_1) 64 ∧ (∀ x6_1 : Int32, x6_1 = (rows ((16 * a2) + x5_1).toNatClampNeg) → (vp_in ((16 * a3) + x5_1) 64 ∧ (∀ x7_1 : Int32, x7_1 = (rows ((16 * a3) + x5_1).toNatClampNeg) → (jn (wj_Md_join_126 x5_1 fresh_1 (wl_Md_join_40 rows a1 a2 a3 Kx_1 n)) (fun K_1 : Int32 → Prop => (a1 = 0 → (K_1 (x6_1 ||| x7_1))) ∧ (¬ a1 = 0 → ((a1 = 1 → (K_1 (x6_1 &&& x7_1))) ∧ (¬ a1 = 1 → ((a1 = 2 → (K_1 (x6_1 &&& (x7_1 ^^^ (-1))))) ∧ (¬ a1 = 2 → (K_1 (x6_1 ^^^ x7_1))))))))))))))
def wp_Md_join (rows : IA) (fresh : IA) (oldMask : IA) (oldRows : IA) (known : Int32) (a1 : Int32) (a2 : Int32) (a3 : Int32) (a4 : Int32) (Q : Int32 → IA → IA → IA → IA → Int32 → Prop) : Prop :=
  wp_Md_in (Int32.toInt64 a1) 0 3 (fun r_1 => (r_1 = 0 → (Q (-2) rows fresh oldMask oldRows known)) ∧ (¬ r_1 = 0 → (wp_Md_isMask a2 (fun r_2 => (r_2 = 0 → (Q (-2) rows fresh oldMask oldRows known)) ∧ (¬ r_2 = 0 → (wp_Md_isMask a3 (fun r_3 => (r_3 = 0 → (Q (-2) rows fresh oldMask oldRows known)) ∧ (¬ r_3 = 0 → (wp_Md_isMask a4 (fun r_4 => (r_4 = 0 → (Q (-2) rows fresh oldMask oldRows known)) ∧ (¬ r_4 = 0 → (∃ k_1 : Nat, wl_Md_join_40 rows a1 a2 a3 (wx_Md_join_133 rows oldMask oldRows known a4 Q) k_1 0 fresh))))))))))))
set_option maxHeartbeats 4000000 in
theorem c_Md_join (l : Launch) (G : GG) (ad : Nat → Nat) (forms : IA) (sizes : IA) (items : IA) (moved : IA) (latest : Int32) (rows : IA) (fresh : IA) (oldMask : IA) (oldRows : IA) (known : Int32) (drawn : Int32) (label : IA) (pile : IA) (parts : Int32) (waitX : IA) (waitY : IA) (waitSide : IA) (waits : Int32) (sign : IA) (signs : Int32) (many : IA) (a1 : Int32) (a2 : Int32) (a3 : Int32) (a4 : Int32) {Q : Int32 → IA → IA → IA → IA → Int32 → Prop} (h : wp_Md_join rows fresh oldMask oldRows known a1 a2 a3 a4 Q) : qm_MI l yX6_join wsX6_join rmX6_join G [.ref (ad 0), .int a1, .int a2, .int a3, .int a4] (mw G ad forms sizes items moved latest rows fresh oldMask oldRows known drawn label pile parts waitX waitY waitSide waits sign signs many) (fun (r : Int32) (u : IA × IA × IA × IA × Int32) => Q r u.1 u.2.1 u.2.2.1 u.2.2.2.1 u.2.2.2.2) (fun (u : IA × IA × IA × IA × Int32) => mw G ad forms sizes items moved latest u.1 u.2.1 u.2.2.1 u.2.2.2.1 u.2.2.2.2 drawn label pile parts waitX waitY waitSide waits sign signs many) := by
  refine qm_mkI (cc := cX6_join) (maxL := 8) (by decide) rfl (Nat.le_of_ble_eq_true rfl) ?_
  intro X C hret
  replace C : qm_C G 8 X cX6_join wsX6_join RX6 := C
  refine v_lv (lv' := [(0, .ref (ad 0)), (1, .int a1), (2, .int a2), (3, .int a3), (4, .int a4)]) rfl ?_
  unfold wp_Md_join at h
  refine v_iload_n C dX6_join_0 rfl 1 rfl ?_
  refine v_i2l C dX6_join_1 ?_
  refine v_lconst C 0 dX6_join_2 (by decide) ?_
  refine v_ldc2 C 3 mX6_join_w1 dX6_join_3 ?_
  refine v_callSi C (c_Md_in l G (mw G ad forms sizes items moved latest rows fresh oldMask oldRows known drawn label pile parts waitX waitY waitSide waits sign signs many) (Int32.toInt64 a1) 0 3 h) gX6_join_X6_in rfl kX6_in ⟨rfl, rfl⟩ ⟨Nat.le_of_ble_eq_true rfl, Nat.le_of_ble_eq_true rfl⟩ rfl (Nat.le_of_ble_eq_true rfl) dX6_join_6 (fun r_1 _ h => ?_)
  try dsimp only at h
  refine v_if_eq C 34 dX6_join_9 (by decide) (fun c_8 => ?_) (fun c_8 => ?_)
  · replace h := h.1 c_8
    refine v_bipush C (-2) dX6_join_34 (by decide) ?_
    exact hret _ _ _ (-2) (rows, fresh, oldMask, oldRows, known) h rfl dX6_join_36
  · replace h := h.2 c_8
    refine v_iload_n C dX6_join_12 rfl 2 rfl ?_
    refine v_callSi C (c_Md_isMask l G (mw G ad forms sizes items moved latest rows fresh oldMask oldRows known drawn label pile parts waitX waitY waitSide waits sign signs many) a2 h) gX6_join_X6_isMask rfl kX6_isMask ⟨rfl, rfl⟩ ⟨Nat.le_of_ble_eq_true rfl, Nat.le_of_ble_eq_true rfl⟩ rfl (Nat.le_of_ble_eq_true rfl) dX6_join_13 (fun r_2 _ h => ?_)
    try dsimp only at h
    refine v_if_eq C 34 dX6_join_16 (by decide) (fun c_7 => ?_) (fun c_7 => ?_)
    · replace h := h.1 c_7
      refine v_bipush C (-2) dX6_join_34 (by decide) ?_
      exact hret _ _ _ (-2) (rows, fresh, oldMask, oldRows, known) h rfl dX6_join_36
    · replace h := h.2 c_7
      refine v_iload_n C dX6_join_19 rfl 3 rfl ?_
      refine v_callSi C (c_Md_isMask l G (mw G ad forms sizes items moved latest rows fresh oldMask oldRows known drawn label pile parts waitX waitY waitSide waits sign signs many) a3 h) gX6_join_X6_isMask rfl kX6_isMask ⟨rfl, rfl⟩ ⟨Nat.le_of_ble_eq_true rfl, Nat.le_of_ble_eq_true rfl⟩ rfl (Nat.le_of_ble_eq_true rfl) dX6_join_20 (fun r_3 _ h => ?_)
      try dsimp only at h
      refine v_if_eq C 34 dX6_join_23 (by decide) (fun c_6 => ?_) (fun c_6 => ?_)
      · replace h := h.1 c_6
        refine v_bipush C (-2) dX6_join_34 (by decide) ?_
        exact hret _ _ _ (-2) (rows, fresh, oldMask, oldRows, known) h rfl dX6_join_36
      · replace h := h.2 c_6
        refine v_iload C dX6_join_26 4 rfl ?_
        refine v_callSi C (c_Md_isMask l G (mw G ad forms sizes items moved latest rows fresh oldMask oldRows known drawn label pile parts waitX waitY waitSide waits sign signs many) a4 h) gX6_join_X6_isMask rfl kX6_isMask ⟨rfl, rfl⟩ ⟨Nat.le_of_ble_eq_true rfl, Nat.le_of_ble_eq_true rfl⟩ rfl (Nat.le_of_ble_eq_true rfl) dX6_join_28 (fun r_4 _ h => ?_)
        try dsimp only at h
        refine v_if_ne C 37 dX6_join_31 (by decide) (fun c_5 => ?_) (fun c_5 => ?_)
        · replace h := h.2 c_5
          refine v_iconst C 0 dX6_join_37 (by decide) ?_
          refine v_istore C [(5, .int 0), (0, .ref (ad 0)), (1, .int a1), (2, .int a2), (3, .int a3), (4, .int a4)] dX6_join_38 (by decide) rfl ?_
          have hx_1 : ∀ (x5_2 : Int32) (fresh_2 : IA), (wx_Md_join_133 rows oldMask oldRows known a4 Q) x5_2 fresh_2 → qm_V l G rmX6_join 8 X (mw G ad forms sizes items moved latest rows fresh_2 oldMask oldRows known drawn label pile parts waitX waitY waitSide waits sign signs many) [(5, .int x5_2), (0, .ref (ad 0)), (1, .int a1), (2, .int a2), (3, .int a3), (4, .int a4)] 133 [] := by
            intro x5_2 fresh_2 h
            unfold wx_Md_join_133 at h
            refine v_aload_n C dX6_join_133 rfl 1 rfl ?_
            refine v_iload C dX6_join_134 5 rfl ?_
            refine v_callVi C (c_Md_become l G ad forms sizes items moved latest rows fresh_2 oldMask oldRows known drawn label pile parts waitX waitY waitSide waits sign signs many a4 h) 0 rfl rfl gX6_join_X6_become rfl kX6_become ⟨rfl, rfl⟩ ⟨Nat.le_of_ble_eq_true rfl, Nat.le_of_ble_eq_true rfl⟩ rfl (Nat.le_of_ble_eq_true rfl) dX6_join_136 (fun r_5 u h => ?_)
            obtain ⟨m_rows_1, m_oldMask_1, m_oldRows_1, m_known_1⟩ := u
            try dsimp only at h
            refine v_world (ws' := mw G ad forms sizes items moved latest m_rows_1 fresh_2 m_oldMask_1 m_oldRows_1 m_known_1 drawn label pile parts waitX waitY waitSide waits sign signs many) rfl ?_
            exact hret _ _ _ r_5 (m_rows_1, fresh_2, m_oldMask_1, m_oldRows_1, m_known_1) h rfl dX6_join_139
          have hl_1 : ∀ n_1 : Nat, ∀ (x5_1 : Int32) (fresh_1 : IA), wl_Md_join_40 rows a1 a2 a3 (wx_Md_join_133 rows oldMask oldRows known a4 Q) n_1 x5_1 fresh_1 → qm_V l G rmX6_join 8 X (mw G ad forms sizes items moved latest rows fresh_1 oldMask oldRows known drawn label pile parts waitX waitY waitSide waits sign signs many) [(5, .int x5_1), (0, .ref (ad 0)), (1, .int a1), (2, .int a2), (3, .int a3), (4, .int a4)] 40 [] := by
            intro n_1
            induction n_1 with
            | zero =>
              intro x5_1 fresh_1 h
              exact False.elim h
            | succ n_1 ih_1 =>
              intro x5_1 fresh_1 h
              rw [wl_Md_join_40] at h
              refine v_iload C dX6_join_40 0 rfl ?_
              refine v_bipush C 16 dX6_join_42 (by decide) ?_
              refine v_icmp_ge C 133 dX6_join_44 (by decide) (fun c_4 => ?_) (fun c_4 => ?_)
              · replace h := h.1 c_4
                exact hx_1 x5_1 fresh_1 h
              · replace h := h.2 c_4
                refine v_aload_n C dX6_join_47 rfl 1 rfl ?_
                refine v_get C iX6_join_6 0 rfl rfl 5 (by decide) mX6_join_w2 rfl rfl dX6_join_48 ?_
                refine v_bipush C 16 dX6_join_51 (by decide) ?_
                refine v_iload_n C dX6_join_53 rfl 3 rfl ?_
                refine v_imul C dX6_join_54 ?_
                refine v_iload C dX6_join_55 0 rfl ?_
                refine v_iadd C dX6_join_57 ?_
                obtain ⟨hin_1, h⟩ := h
                refine v_iald C 5 rfl hin_1 dX6_join_58 ?_
                refine v_topi (fun x6_1 ex6_1 => ?_)
                replace h := h x6_1 ex6_1
                refine v_istore C [(6, .int x6_1), (5, .int x5_1), (0, .ref (ad 0)), (1, .int a1), (2, .int a2), (3, .int a3), (4, .int a4)] dX6_join_59 (by decide) rfl ?_
                refine v_aload_n C dX6_join_61 rfl 2 rfl ?_
                refine v_get C iX6_join_6 0 rfl rfl 5 (by decide) mX6_join_w2 rfl rfl dX6_join_62 ?_
                refine v_bipush C 16 dX6_join_65 (by decide) ?_
                refine v_iload_n C dX6_join_67 rfl 5 rfl ?_
                refine v_imul C dX6_join_68 ?_
                refine v_iload C dX6_join_69 1 rfl ?_
                refine v_iadd C dX6_join_71 ?_
                obtain ⟨hin_2, h⟩ := h
                refine v_iald C 5 rfl hin_2 dX6_join_72 ?_
                refine v_topi (fun x7_1 ex7_1 => ?_)
                replace h := h x7_1 ex7_1
                refine v_istore C [(7, .int x7_1), (6, .int x6_1), (5, .int x5_1), (0, .ref (ad 0)), (1, .int a1), (2, .int a2), (3, .int a3), (4, .int a4)] dX6_join_73 (by decide) rfl ?_
                refine v_aload_n C dX6_join_75 rfl 3 rfl ?_
                refine v_get C iX6_join_6 0 rfl rfl 6 (by decide) mX6_join_w3 rfl rfl dX6_join_76 ?_
                refine v_iload C dX6_join_79 2 rfl ?_
                refine v_iload_n C dX6_join_81 rfl 4 rfl ?_
                have hJ_1 : ∀ (t_1 : Int32), (wj_Md_join_126 x5_1 fresh_1 (wl_Md_join_40 rows a1 a2 a3 (wx_Md_join_133 rows oldMask oldRows known a4 Q) n_1)) t_1 → qm_V l G rmX6_join 8 X (mw G ad forms sizes items moved latest rows fresh_1 oldMask oldRows known drawn label pile parts waitX waitY waitSide waits sign signs many) [(7, .int x7_1), (6, .int x6_1), (5, .int x5_1), (0, .ref (ad 0)), (1, .int a1), (2, .int a2), (3, .int a3), (4, .int a4)] 126 [.int t_1, .int x5_1, .ref (ad 6)] := by
                  intro t_1 h
                  unfold wj_Md_join_126 at h
                  obtain ⟨hin_3, h⟩ := h
                  obtain ⟨f_fresh_1, ef_fresh_1⟩ : ∃ y : IA, y = upd fresh_1 x5_1.toNatClampNeg t_1 := ⟨_, rfl⟩
                  replace h := h f_fresh_1 ef_fresh_1
                  refine v_iast C 6 rfl (ws' := mw G ad forms sizes items moved latest rows f_fresh_1 oldMask oldRows known drawn label pile parts waitX waitY waitSide waits sign signs many) (by subst ef_fresh_1; exact rfl) hin_3 dX6_join_126 ?_
                  refine v_iinc C (x5_1 + 1) 2 [(5, .int (x5_1 + 1)), (7, .int x7_1), (6, .int x6_1), (0, .ref (ad 0)), (1, .int a1), (2, .int a2), (3, .int a3), (4, .int a4)] dX6_join_127 rfl rfl (by decide) rfl ?_
                  refine v_goto C 40 dX6_join_130 (by decide) ?_
                  refine v_perm [0, 3, 4, 5, 6, 7] rfl ?_
                  exact ih_1 (x5_1 + 1) f_fresh_1 h
                replace h := jn_use h
                try dsimp only at h
                refine v_if_ne C 93 dX6_join_82 (by decide) (fun c_3 => ?_) (fun c_3 => ?_)
                · replace h := h.2 c_3
                  refine v_iload_n C dX6_join_93 rfl 4 rfl ?_
                  refine v_iconst C 1 dX6_join_94 (by decide) ?_
                  refine v_icmp_ne C 106 dX6_join_95 (by decide) (fun c_2 => ?_) (fun c_2 => ?_)
                  · replace h := h.2 c_2
                    refine v_iload_n C dX6_join_106 rfl 4 rfl ?_
                    refine v_iconst C 2 dX6_join_107 (by decide) ?_
                    refine v_icmp_ne C 121 dX6_join_108 (by decide) (fun c_1 => ?_) (fun c_1 => ?_)
                    · replace h := h.2 c_1
                      refine v_iload C dX6_join_121 1 rfl ?_
                      refine v_iload C dX6_join_123 0 rfl ?_
                      refine v_ixor C dX6_join_125 ?_
                      exact hJ_1 (x6_1 ^^^ x7_1) h
                    · replace h := h.1 c_1
                      refine v_iload C dX6_join_111 1 rfl ?_
                      refine v_iload C dX6_join_113 0 rfl ?_
                      refine v_iconst C (-1) dX6_join_115 (by decide) ?_
                      refine v_ixor C dX6_join_116 ?_
                      refine v_iand C dX6_join_117 ?_
                      refine v_goto C 126 dX6_join_118 (by decide) ?_
                      exact hJ_1 (x6_1 &&& (x7_1 ^^^ (-1))) h
                  · replace h := h.1 c_2
                    refine v_iload C dX6_join_98 1 rfl ?_
                    refine v_iload C dX6_join_100 0 rfl ?_
                    refine v_iand C dX6_join_102 ?_
                    refine v_goto C 126 dX6_join_103 (by decide) ?_
                    exact hJ_1 (x6_1 &&& x7_1) h
                · replace h := h.1 c_3
                  refine v_iload C dX6_join_85 1 rfl ?_
                  refine v_iload C dX6_join_87 0 rfl ?_
                  refine v_ior C dX6_join_89 ?_
                  refine v_goto C 126 dX6_join_90 (by decide) ?_
                  exact hJ_1 (x6_1 ||| x7_1) h
          obtain ⟨k_1, h⟩ := h
          exact hl_1 k_1 0 fresh h
        · replace h := h.1 c_5
          refine v_bipush C (-2) dX6_join_34 (by decide) ?_
          exact hret _ _ _ (-2) (rows, fresh, oldMask, oldRows, known) h rfl dX6_join_36
-- QuarterMasksModel.over
def rmX6_over : Room := { frames := 6, cells := 0, slots := 0, locals := 153 }
theorem kX6_over : yX6_over.cls = RX6 ∧ yX6_over.cls ≠ "java/lang/invoke/MethodHandle" ∧ yX6_over.cls ≠ "java/lang/invoke/VarHandle" ∧ (parseMethodDescriptor yX6_over.desc).map (fun d => d.parameters.length) = some 2 := by decide +kernel
theorem mX6_over_w1 : Cond.fieldLink RX6 25 "QuarterMasksModel" "fresh" "[I" ∈ wsX6_over := List.mem_of_getElem? (i := 1) rfl
theorem iX6_over_6 : ∀ w ∈ wsX60, w ∈ wsX6_over := fun w h => List.mem_cons_of_mem _ (List.mem_append_right _ h)
theorem mX6_over_w2 : Cond.constant RX6 130 (65535) ∈ wsX6_over := List.mem_of_getElem? (i := 2) rfl
theorem mX6_over_w3 : Cond.fieldLink RX6 22 "QuarterMasksModel" "rows" "[I" ∈ wsX6_over := List.mem_of_getElem? (i := 3) rfl
def wx_Md_over_51 (rows : IA) (oldMask : IA) (oldRows : IA) (known : Int32) (a2 : Int32) (Q : Int32 → IA → IA → IA → IA → Int32 → Prop) (x3_2 : Int32) (fresh_2 : IA) : Prop :=
  wp_Md_become rows fresh_2 oldMask oldRows known a2 (fun r_3 m_rows_1 m_oldMask_1 m_oldRows_1 m_known_1 => Q r_3 m_rows_1 fresh_2 m_oldMask_1 m_oldRows_1 m_known_1)
def wl_Md_over_19 (rows : IA) (a1 : Int32) (Kx_1 : Int32 → IA → Prop) : Nat → Int32 → IA → Prop
  | 0, _, _ => False
  | n + 1, x3_1, fresh_1 => (16 ≤ x3_1 → (Kx_1 x3_1 fresh_1)) ∧ (¬ 16 ≤ x3_1 → (vp_in ((16 * a1) + x3_1) 64 ∧ (vp_in x3_1 16 ∧ (∀ f_fresh_1 : IA, f_fresh_1 = upd fresh_1 x3_1.toNatClampNeg (65535 ^^^ (rows ((16 * a1) + x3_1).toNatClampNeg)) → ((wl_Md_over_19 rows a1 Kx_1 n) (x3_1 + 1) f_fresh_1)))))
def wp_Md_over (rows : IA) (fresh : IA) (oldMask : IA) (oldRows : IA) (known : Int32) (a1 : Int32) (a2 : Int32) (Q : Int32 → IA → IA → IA → IA → Int32 → Prop) : Prop :=
  wp_Md_isMask a1 (fun r_1 => (r_1 = 0 → (Q (-2) rows fresh oldMask oldRows known)) ∧ (¬ r_1 = 0 → (wp_Md_isMask a2 (fun r_2 => (r_2 = 0 → (Q (-2) rows fresh oldMask oldRows known)) ∧ (¬ r_2 = 0 → (∃ k_1 : Nat, wl_Md_over_19 rows a1 (wx_Md_over_51 rows oldMask oldRows known a2 Q) k_1 0 fresh))))))
set_option maxHeartbeats 4000000 in
theorem c_Md_over (l : Launch) (G : GG) (ad : Nat → Nat) (forms : IA) (sizes : IA) (items : IA) (moved : IA) (latest : Int32) (rows : IA) (fresh : IA) (oldMask : IA) (oldRows : IA) (known : Int32) (drawn : Int32) (label : IA) (pile : IA) (parts : Int32) (waitX : IA) (waitY : IA) (waitSide : IA) (waits : Int32) (sign : IA) (signs : Int32) (many : IA) (a1 : Int32) (a2 : Int32) {Q : Int32 → IA → IA → IA → IA → Int32 → Prop} (h : wp_Md_over rows fresh oldMask oldRows known a1 a2 Q) : qm_MI l yX6_over wsX6_over rmX6_over G [.ref (ad 0), .int a1, .int a2] (mw G ad forms sizes items moved latest rows fresh oldMask oldRows known drawn label pile parts waitX waitY waitSide waits sign signs many) (fun (r : Int32) (u : IA × IA × IA × IA × Int32) => Q r u.1 u.2.1 u.2.2.1 u.2.2.2.1 u.2.2.2.2) (fun (u : IA × IA × IA × IA × Int32) => mw G ad forms sizes items moved latest u.1 u.2.1 u.2.2.1 u.2.2.2.1 u.2.2.2.2 drawn label pile parts waitX waitY waitSide waits sign signs many) := by
  refine qm_mkI (cc := cX6_over) (maxL := 4) (by decide) rfl (Nat.le_of_ble_eq_true rfl) ?_
  intro X C hret
  replace C : qm_C G 4 X cX6_over wsX6_over RX6 := C
  refine v_lv (lv' := [(0, .ref (ad 0)), (1, .int a1), (2, .int a2)]) rfl ?_
  unfold wp_Md_over at h
  refine v_iload_n C dX6_over_0 rfl 1 rfl ?_
  refine v_callSi C (c_Md_isMask l G (mw G ad forms sizes items moved latest rows fresh oldMask oldRows known drawn label pile parts waitX waitY waitSide waits sign signs many) a1 h) gX6_over_X6_isMask rfl kX6_isMask ⟨rfl, rfl⟩ ⟨Nat.le_of_ble_eq_true rfl, Nat.le_of_ble_eq_true rfl⟩ rfl (Nat.le_of_ble_eq_true rfl) dX6_over_1 (fun r_1 _ h => ?_)
  try dsimp only at h
  refine v_if_eq C 14 dX6_over_4 (by decide) (fun c_3 => ?_) (fun c_3 => ?_)
  · replace h := h.1 c_3
    refine v_bipush C (-2) dX6_over_14 (by decide) ?_
    exact hret _ _ _ (-2) (rows, fresh, oldMask, oldRows, known) h rfl dX6_over_16
  · replace h := h.2 c_3
    refine v_iload_n C dX6_over_7 rfl 2 rfl ?_
    refine v_callSi C (c_Md_isMask l G (mw G ad forms sizes items moved latest rows fresh oldMask oldRows known drawn label pile parts waitX waitY waitSide waits sign signs many) a2 h) gX6_over_X6_isMask rfl kX6_isMask ⟨rfl, rfl⟩ ⟨Nat.le_of_ble_eq_true rfl, Nat.le_of_ble_eq_true rfl⟩ rfl (Nat.le_of_ble_eq_true rfl) dX6_over_8 (fun r_2 _ h => ?_)
    try dsimp only at h
    refine v_if_ne C 17 dX6_over_11 (by decide) (fun c_2 => ?_) (fun c_2 => ?_)
    · replace h := h.2 c_2
      refine v_iconst C 0 dX6_over_17 (by decide) ?_
      refine v_istore_n C [(3, .int 0), (0, .ref (ad 0)), (1, .int a1), (2, .int a2)] dX6_over_18 rfl (by decide) rfl ?_
      have hx_1 : ∀ (x3_2 : Int32) (fresh_2 : IA), (wx_Md_over_51 rows oldMask oldRows known a2 Q) x3_2 fresh_2 → qm_V l G rmX6_over 4 X (mw G ad forms sizes items moved latest rows fresh_2 oldMask oldRows known drawn label pile parts waitX waitY waitSide waits sign signs many) [(3, .int x3_2), (0, .ref (ad 0)), (1, .int a1), (2, .int a2)] 51 [] := by
        intro x3_2 fresh_2 h
        unfold wx_Md_over_51 at h
        refine v_aload_n C dX6_over_51 rfl 1 rfl ?_
        refine v_iload_n C dX6_over_52 rfl 3 rfl ?_
        refine v_callVi C (c_Md_become l G ad forms sizes items moved latest rows fresh_2 oldMask oldRows known drawn label pile parts waitX waitY waitSide waits sign signs many a2 h) 0 rfl rfl gX6_over_X6_become rfl kX6_become ⟨rfl, rfl⟩ ⟨Nat.le_of_ble_eq_true rfl, Nat.le_of_ble_eq_true rfl⟩ rfl (Nat.le_of_ble_eq_true rfl) dX6_over_53 (fun r_3 u h => ?_)
        obtain ⟨m_rows_1, m_oldMask_1, m_oldRows_1, m_known_1⟩ := u
        try dsimp only at h
        refine v_world (ws' := mw G ad forms sizes items moved latest m_rows_1 fresh_2 m_oldMask_1 m_oldRows_1 m_known_1 drawn label pile parts waitX waitY waitSide waits sign signs many) rfl ?_
        exact hret _ _ _ r_3 (m_rows_1, fresh_2, m_oldMask_1, m_oldRows_1, m_known_1) h rfl dX6_over_56
      have hl_1 : ∀ n_1 : Nat, ∀ (x3_1 : Int32) (fresh_1 : IA), wl_Md_over_19 rows a1 (wx_Md_over_51 rows oldMask oldRows known a2 Q) n_1 x3_1 fresh_1 → qm_V l G rmX6_over 4 X (mw G ad forms sizes items moved latest rows fresh_1 oldMask oldRows known drawn label pile parts waitX waitY waitSide waits sign signs many) [(3, .int x3_1), (0, .ref (ad 0)), (1, .int a1), (2, .int a2)] 19 [] := by
        intro n_1
        induction n_1 with
        | zero =>
          intro x3_1 fresh_1 h
          exact False.elim h
        | succ n_1 ih_1 =>
          intro x3_1 fresh_1 h
          rw [wl_Md_over_19] at h
          refine v_iload_n C dX6_over_19 rfl 0 rfl ?_
          refine v_bipush C 16 dX6_over_20 (by decide) ?_
          refine v_icmp_ge C 51 dX6_over_22 (by decide) (fun c_1 => ?_) (fun c_1 => ?_)
          · replace h := h.1 c_1
            exact hx_1 x3_1 fresh_1 h
          · replace h := h.2 c_1
            refine v_aload_n C dX6_over_25 rfl 1 rfl ?_
            refine v_get C iX6_over_6 0 rfl rfl 6 (by decide) mX6_over_w1 rfl rfl dX6_over_26 ?_
            refine v_iload_n C dX6_over_29 rfl 0 rfl ?_
            refine v_ldc C 65535 mX6_over_w2 dX6_over_30 ?_
            refine v_aload_n C dX6_over_32 rfl 1 rfl ?_
            refine v_get C iX6_over_6 0 rfl rfl 5 (by decide) mX6_over_w3 rfl rfl dX6_over_33 ?_
            refine v_bipush C 16 dX6_over_36 (by decide) ?_
            refine v_iload_n C dX6_over_38 rfl 2 rfl ?_
            refine v_imul C dX6_over_39 ?_
            refine v_iload_n C dX6_over_40 rfl 0 rfl ?_
            refine v_iadd C dX6_over_41 ?_
            obtain ⟨hin_1, h⟩ := h
            refine v_iald C 5 rfl hin_1 dX6_over_42 ?_
            refine v_ixor C dX6_over_43 ?_
            obtain ⟨hin_2, h⟩ := h
            obtain ⟨f_fresh_1, ef_fresh_1⟩ : ∃ y : IA, y = upd fresh_1 x3_1.toNatClampNeg (65535 ^^^ (rows ((16 * a1) + x3_1).toNatClampNeg)) := ⟨_, rfl⟩
            replace h := h f_fresh_1 ef_fresh_1
            refine v_iast C 6 rfl (ws' := mw G ad forms sizes items moved latest rows f_fresh_1 oldMask oldRows known drawn label pile parts waitX waitY waitSide waits sign signs many) (by subst ef_fresh_1; exact rfl) hin_2 dX6_over_44 ?_
            refine v_iinc C (x3_1 + 1) 0 [(3, .int (x3_1 + 1)), (0, .ref (ad 0)), (1, .int a1), (2, .int a2)] dX6_over_45 rfl rfl (by decide) rfl ?_
            refine v_goto C 19 dX6_over_48 (by decide) ?_
            exact ih_1 (x3_1 + 1) f_fresh_1 h
      obtain ⟨k_1, h⟩ := h
      exact hl_1 k_1 0 fresh h
    · replace h := h.1 c_2
      refine v_bipush C (-2) dX6_over_14 (by decide) ?_
      exact hret _ _ _ (-2) (rows, fresh, oldMask, oldRows, known) h rfl dX6_over_16
-- QuarterMasksModel.move
def rmX6_move : Room := { frames := 6, cells := 0, slots := 0, locals := 153 }
theorem kX6_move : yX6_move.cls = RX6 ∧ yX6_move.cls ≠ "java/lang/invoke/MethodHandle" ∧ yX6_move.cls ≠ "java/lang/invoke/VarHandle" ∧ (parseMethodDescriptor yX6_move.desc).map (fun d => d.parameters.length) = some 4 := by decide +kernel
theorem mX6_move_w1 : Cond.constantLong RX6 131 (-16) ∈ wsX6_move := List.mem_of_getElem? (i := 1) rfl
theorem mX6_move_w2 : Cond.constantLong RX6 106 (16) ∈ wsX6_move := List.mem_of_getElem? (i := 2) rfl
def wx_Md_move_100 (rows : IA) (oldMask : IA) (oldRows : IA) (known : Int32) (a4 : Int32) (Q : Int32 → IA → IA → IA → IA → Int32 → Prop) (x5_2 : Int32) (fresh_2 : IA) : Prop :=
  wp_Md_become rows fresh_2 oldMask oldRows known a4 (fun r_5 m_rows_1 m_oldMask_1 m_oldRows_1 m_known_1 => Q r_5 m_rows_1 fresh_2 m_oldMask_1 m_oldRows_1 m_known_1)
def wl_Md_move_53 (rows : IA) (a1 : Int32) (a2 : Int32) (a3 : Int32) (Kx_1 : Int32 → IA → Prop) : Nat → Int32 → IA → Prop
  | 0, _, _ => False
  | n + 1, x5_1, fresh_1 => (256 ≤ x5_1 → (Kx_1 x5_1 fresh_1)) ∧ (¬ 256 ≤ x5_1 → (wp_Md_dark rows a1 ((jrem x5_1 16) - a2) ((x5_1 / 16) - a3) (fun r_6 => wp_Md_sets fresh_1 (jrem x5_1 16) (x5_1 / 16) r_6 (fun m_fresh_2 => (wl_Md_move_53 rows a1 a2 a3 Kx_1 n) (x5_1 + 1) m_fresh_2))))
def wp_Md_move (rows : IA) (fresh : IA) (oldMask : IA) (oldRows : IA) (known : Int32) (a1 : Int32) (a2 : Int32) (a3 : Int32) (a4 : Int32) (Q : Int32 → IA → IA → IA → IA → Int32 → Prop) : Prop :=
  wp_Md_isMask a1 (fun r_1 => (r_1 = 0 → (Q (-2) rows fresh oldMask oldRows known)) ∧ (¬ r_1 = 0 → (wp_Md_in (Int32.toInt64 a2) (-16) 16 (fun r_2 => (r_2 = 0 → (Q (-2) rows fresh oldMask oldRows known)) ∧ (¬ r_2 = 0 → (wp_Md_in (Int32.toInt64 a3) (-16) 16 (fun r_3 => (r_3 = 0 → (Q (-2) rows fresh oldMask oldRows known)) ∧ (¬ r_3 = 0 → (wp_Md_isMask a4 (fun r_4 => (r_4 = 0 → (Q (-2) rows fresh oldMask oldRows known)) ∧ (¬ r_4 = 0 → (wp_Md_clears fresh (fun m_fresh_1 => ∃ k_1 : Nat, wl_Md_move_53 rows a1 a2 a3 (wx_Md_move_100 rows oldMask oldRows known a4 Q) k_1 0 m_fresh_1)))))))))))))
set_option maxHeartbeats 4000000 in
theorem c_Md_move (l : Launch) (G : GG) (ad : Nat → Nat) (forms : IA) (sizes : IA) (items : IA) (moved : IA) (latest : Int32) (rows : IA) (fresh : IA) (oldMask : IA) (oldRows : IA) (known : Int32) (drawn : Int32) (label : IA) (pile : IA) (parts : Int32) (waitX : IA) (waitY : IA) (waitSide : IA) (waits : Int32) (sign : IA) (signs : Int32) (many : IA) (a1 : Int32) (a2 : Int32) (a3 : Int32) (a4 : Int32) {Q : Int32 → IA → IA → IA → IA → Int32 → Prop} (h : wp_Md_move rows fresh oldMask oldRows known a1 a2 a3 a4 Q) : qm_MI l yX6_move wsX6_move rmX6_move G [.ref (ad 0), .int a1, .int a2, .int a3, .int a4] (mw G ad forms sizes items moved latest rows fresh oldMask oldRows known drawn label pile parts waitX waitY waitSide waits sign signs many) (fun (r : Int32) (u : IA × IA × IA × IA × Int32) => Q r u.1 u.2.1 u.2.2.1 u.2.2.2.1 u.2.2.2.2) (fun (u : IA × IA × IA × IA × Int32) => mw G ad forms sizes items moved latest u.1 u.2.1 u.2.2.1 u.2.2.2.1 u.2.2.2.2 drawn label pile parts waitX waitY waitSide waits sign signs many) := by
  refine qm_mkI (cc := cX6_move) (maxL := 6) (by decide) rfl (Nat.le_of_ble_eq_true rfl) ?_
  intro X C hret
  replace C : qm_C G 6 X cX6_move wsX6_move RX6 := C
  refine v_lv (lv' := [(0, .ref (ad 0)), (1, .int a1), (2, .int a2), (3, .int a3), (4, .int a4)]) rfl ?_
  unfold wp_Md_move at h
  refine v_iload_n C dX6_move_0 rfl 1 rfl ?_
  refine v_callSi C (c_Md_isMask l G (mw G ad forms sizes items moved latest rows fresh oldMask oldRows known drawn label pile parts waitX waitY waitSide waits sign signs many) a1 h) gX6_move_X6_isMask rfl kX6_isMask ⟨rfl, rfl⟩ ⟨Nat.le_of_ble_eq_true rfl, Nat.le_of_ble_eq_true rfl⟩ rfl (Nat.le_of_ble_eq_true rfl) dX6_move_1 (fun r_1 _ h => ?_)
  try dsimp only at h
  refine v_if_eq C 43 dX6_move_4 (by decide) (fun c_5 => ?_) (fun c_5 => ?_)
  · replace h := h.1 c_5
    refine v_bipush C (-2) dX6_move_43 (by decide) ?_
    exact hret _ _ _ (-2) (rows, fresh, oldMask, oldRows, known) h rfl dX6_move_45
  · replace h := h.2 c_5
    refine v_iload_n C dX6_move_7 rfl 2 rfl ?_
    refine v_i2l C dX6_move_8 ?_
    refine v_ldc2 C (-16) mX6_move_w1 dX6_move_9 ?_
    refine v_ldc2 C 16 mX6_move_w2 dX6_move_12 ?_
    refine v_callSi C (c_Md_in l G (mw G ad forms sizes items moved latest rows fresh oldMask oldRows known drawn label pile parts waitX waitY waitSide waits sign signs many) (Int32.toInt64 a2) (-16) 16 h) gX6_move_X6_in rfl kX6_in ⟨rfl, rfl⟩ ⟨Nat.le_of_ble_eq_true rfl, Nat.le_of_ble_eq_true rfl⟩ rfl (Nat.le_of_ble_eq_true rfl) dX6_move_15 (fun r_2 _ h => ?_)
    try dsimp only at h
    refine v_if_eq C 43 dX6_move_18 (by decide) (fun c_4 => ?_) (fun c_4 => ?_)
    · replace h := h.1 c_4
      refine v_bipush C (-2) dX6_move_43 (by decide) ?_
      exact hret _ _ _ (-2) (rows, fresh, oldMask, oldRows, known) h rfl dX6_move_45
    · replace h := h.2 c_4
      refine v_iload_n C dX6_move_21 rfl 3 rfl ?_
      refine v_i2l C dX6_move_22 ?_
      refine v_ldc2 C (-16) mX6_move_w1 dX6_move_23 ?_
      refine v_ldc2 C 16 mX6_move_w2 dX6_move_26 ?_
      refine v_callSi C (c_Md_in l G (mw G ad forms sizes items moved latest rows fresh oldMask oldRows known drawn label pile parts waitX waitY waitSide waits sign signs many) (Int32.toInt64 a3) (-16) 16 h) gX6_move_X6_in rfl kX6_in ⟨rfl, rfl⟩ ⟨Nat.le_of_ble_eq_true rfl, Nat.le_of_ble_eq_true rfl⟩ rfl (Nat.le_of_ble_eq_true rfl) dX6_move_29 (fun r_3 _ h => ?_)
      try dsimp only at h
      refine v_if_eq C 43 dX6_move_32 (by decide) (fun c_3 => ?_) (fun c_3 => ?_)
      · replace h := h.1 c_3
        refine v_bipush C (-2) dX6_move_43 (by decide) ?_
        exact hret _ _ _ (-2) (rows, fresh, oldMask, oldRows, known) h rfl dX6_move_45
      · replace h := h.2 c_3
        refine v_iload C dX6_move_35 4 rfl ?_
        refine v_callSi C (c_Md_isMask l G (mw G ad forms sizes items moved latest rows fresh oldMask oldRows known drawn label pile parts waitX waitY waitSide waits sign signs many) a4 h) gX6_move_X6_isMask rfl kX6_isMask ⟨rfl, rfl⟩ ⟨Nat.le_of_ble_eq_true rfl, Nat.le_of_ble_eq_true rfl⟩ rfl (Nat.le_of_ble_eq_true rfl) dX6_move_37 (fun r_4 _ h => ?_)
        try dsimp only at h
        refine v_if_ne C 46 dX6_move_40 (by decide) (fun c_2 => ?_) (fun c_2 => ?_)
        · replace h := h.2 c_2
          refine v_aload_n C dX6_move_46 rfl 0 rfl ?_
          refine v_callVv C (c_Md_clears l G ad forms sizes items moved latest rows fresh oldMask oldRows known drawn label pile parts waitX waitY waitSide waits sign signs many h) 0 rfl rfl gX6_move_X6_clears rfl kX6_clears ⟨rfl, rfl⟩ ⟨Nat.le_of_ble_eq_true rfl, Nat.le_of_ble_eq_true rfl⟩ rfl (Nat.le_of_ble_eq_true rfl) dX6_move_47 (fun m_fresh_1 h => ?_)
          try dsimp only at h
          refine v_world (ws' := mw G ad forms sizes items moved latest rows m_fresh_1 oldMask oldRows known drawn label pile parts waitX waitY waitSide waits sign signs many) rfl ?_
          refine v_iconst C 0 dX6_move_50 (by decide) ?_
          refine v_istore C [(5, .int 0), (0, .ref (ad 0)), (1, .int a1), (2, .int a2), (3, .int a3), (4, .int a4)] dX6_move_51 (by decide) rfl ?_
          have hx_1 : ∀ (x5_2 : Int32) (fresh_2 : IA), (wx_Md_move_100 rows oldMask oldRows known a4 Q) x5_2 fresh_2 → qm_V l G rmX6_move 6 X (mw G ad forms sizes items moved latest rows fresh_2 oldMask oldRows known drawn label pile parts waitX waitY waitSide waits sign signs many) [(5, .int x5_2), (0, .ref (ad 0)), (1, .int a1), (2, .int a2), (3, .int a3), (4, .int a4)] 100 [] := by
            intro x5_2 fresh_2 h
            unfold wx_Md_move_100 at h
            refine v_aload_n C dX6_move_100 rfl 1 rfl ?_
            refine v_iload C dX6_move_101 5 rfl ?_
            refine v_callVi C (c_Md_become l G ad forms sizes items moved latest rows fresh_2 oldMask oldRows known drawn label pile parts waitX waitY waitSide waits sign signs many a4 h) 0 rfl rfl gX6_move_X6_become rfl kX6_become ⟨rfl, rfl⟩ ⟨Nat.le_of_ble_eq_true rfl, Nat.le_of_ble_eq_true rfl⟩ rfl (Nat.le_of_ble_eq_true rfl) dX6_move_103 (fun r_5 u h => ?_)
            obtain ⟨m_rows_1, m_oldMask_1, m_oldRows_1, m_known_1⟩ := u
            try dsimp only at h
            refine v_world (ws' := mw G ad forms sizes items moved latest m_rows_1 fresh_2 m_oldMask_1 m_oldRows_1 m_known_1 drawn label pile parts waitX waitY waitSide waits sign signs many) rfl ?_
            exact hret _ _ _ r_5 (m_rows_1, fresh_2, m_oldMask_1, m_oldRows_1, m_known_1) h rfl dX6_move_106
          have hl_1 : ∀ n_1 : Nat, ∀ (x5_1 : Int32) (fresh_1 : IA), wl_Md_move_53 rows a1 a2 a3 (wx_Md_move_100 rows oldMask oldRows known a4 Q) n_1 x5_1 fresh_1 → qm_V l G rmX6_move 6 X (mw G ad forms sizes items moved latest rows fresh_1 oldMask oldRows known drawn label pile parts waitX waitY waitSide waits sign signs many) [(5, .int x5_1), (0, .ref (ad 0)), (1, .int a1), (2, .int a2), (3, .int a3), (4, .int a4)] 53 [] := by
            intro n_1
            induction n_1 with
            | zero =>
              intro x5_1 fresh_1 h
              exact False.elim h
            | succ n_1 ih_1 =>
              intro x5_1 fresh_1 h
              rw [wl_Md_move_53] at h
              refine v_iload C dX6_move_53 0 rfl ?_
              refine v_sipush C 256 dX6_move_55 (by decide) ?_
              refine v_icmp_ge C 100 dX6_move_58 (by decide) (fun c_1 => ?_) (fun c_1 => ?_)
              · replace h := h.1 c_1
                exact hx_1 x5_1 fresh_1 h
              · replace h := h.2 c_1
                refine v_aload_n C dX6_move_61 rfl 1 rfl ?_
                refine v_iload C dX6_move_62 0 rfl ?_
                refine v_bipush C 16 dX6_move_64 (by decide) ?_
                refine v_irem C dX6_move_66 (by decide) ?_
                refine v_iload C dX6_move_67 0 rfl ?_
                refine v_bipush C 16 dX6_move_69 (by decide) ?_
                refine v_idiv C dX6_move_71 (by decide) ?_
                refine v_aload_n C dX6_move_72 rfl 1 rfl ?_
                refine v_iload_n C dX6_move_73 rfl 2 rfl ?_
                refine v_iload C dX6_move_74 0 rfl ?_
                refine v_bipush C 16 dX6_move_76 (by decide) ?_
                refine v_irem C dX6_move_78 (by decide) ?_
                refine v_iload_n C dX6_move_79 rfl 3 rfl ?_
                refine v_isub C dX6_move_80 ?_
                refine v_iload C dX6_move_81 0 rfl ?_
                refine v_bipush C 16 dX6_move_83 (by decide) ?_
                refine v_idiv C dX6_move_85 (by decide) ?_
                refine v_iload_n C dX6_move_86 rfl 4 rfl ?_
                refine v_isub C dX6_move_87 ?_
                refine v_callVi C (c_Md_dark l G ad forms sizes items moved latest rows fresh_1 oldMask oldRows known drawn label pile parts waitX waitY waitSide waits sign signs many a1 ((jrem x5_1 16) - a2) ((x5_1 / 16) - a3) h) 0 rfl rfl gX6_move_X6_dark rfl kX6_dark ⟨rfl, rfl⟩ ⟨Nat.le_of_ble_eq_true rfl, Nat.le_of_ble_eq_true rfl⟩ rfl (Nat.le_of_ble_eq_true rfl) dX6_move_88 (fun r_6 _ h => ?_)
                try dsimp only at h
                refine v_callVv C (c_Md_sets l G ad forms sizes items moved latest rows fresh_1 oldMask oldRows known drawn label pile parts waitX waitY waitSide waits sign signs many (jrem x5_1 16) (x5_1 / 16) r_6 h) 0 rfl rfl gX6_move_X6_sets rfl kX6_sets ⟨rfl, rfl⟩ ⟨Nat.le_of_ble_eq_true rfl, Nat.le_of_ble_eq_true rfl⟩ rfl (Nat.le_of_ble_eq_true rfl) dX6_move_91 (fun m_fresh_2 h => ?_)
                try dsimp only at h
                refine v_world (ws' := mw G ad forms sizes items moved latest rows m_fresh_2 oldMask oldRows known drawn label pile parts waitX waitY waitSide waits sign signs many) rfl ?_
                refine v_iinc C (x5_1 + 1) 0 [(5, .int (x5_1 + 1)), (0, .ref (ad 0)), (1, .int a1), (2, .int a2), (3, .int a3), (4, .int a4)] dX6_move_94 rfl rfl (by decide) rfl ?_
                refine v_goto C 53 dX6_move_97 (by decide) ?_
                exact ih_1 (x5_1 + 1) m_fresh_2 h
          obtain ⟨k_1, h⟩ := h
          exact hl_1 k_1 0 m_fresh_1 h
        · replace h := h.1 c_2
          refine v_bipush C (-2) dX6_move_43 (by decide) ?_
          exact hret _ _ _ (-2) (rows, fresh, oldMask, oldRows, known) h rfl dX6_move_45
-- QuarterMasksModel.turn
def rmX6_turn : Room := { frames := 6, cells := 0, slots := 0, locals := 153 }
theorem kX6_turn : yX6_turn.cls = RX6 ∧ yX6_turn.cls ≠ "java/lang/invoke/MethodHandle" ∧ yX6_turn.cls ≠ "java/lang/invoke/VarHandle" ∧ (parseMethodDescriptor yX6_turn.desc).map (fun d => d.parameters.length) = some 3 := by decide +kernel
theorem mX6_turn_w1 : Cond.constantLong RX6 63 (3) ∈ wsX6_turn := List.mem_of_getElem? (i := 1) rfl
def wx_Md_turn_117 (rows : IA) (oldMask : IA) (oldRows : IA) (known : Int32) (a3 : Int32) (Q : Int32 → IA → IA → IA → IA → Int32 → Prop) (x4_2 : Int32) (fresh_2 : IA) : Prop :=
  wp_Md_become rows fresh_2 oldMask oldRows known a3 (fun r_4 m_rows_1 m_oldMask_1 m_oldRows_1 m_known_1 => Q r_4 m_rows_1 fresh_2 m_oldMask_1 m_oldRows_1 m_known_1)
def wx_Md_turn_88 (rows : IA) (a1 : Int32) (x4_1 : Int32) (fresh_1 : IA) (Kh_1 : Int32 → IA → Prop) (x7_2 : Int32) (x6_3 : Int32) (x5_3 : Int32) : Prop :=
  wp_Md_dark rows a1 (jrem x4_1 16) (x4_1 / 16) (fun r_5 => wp_Md_sets fresh_1 x5_3 x6_3 r_5 (fun m_fresh_2 => Kh_1 (x4_1 + 1) m_fresh_2))
def wl_Md_turn_61 (a2 : Int32) (Kx_2 : Int32 → Int32 → Int32 → Prop) : Nat → Int32 → Int32 → Int32 → Prop
  | 0, _, _, _ => False
  | n + 1, x7_1, x6_2, x5_2 => (a2 ≤ x7_1 → (Kx_2 x7_1 x6_2 x5_2)) ∧ (¬ a2 ≤ x7_1 → (∀ x5_4 : Int32, x5_4 = (15 - x6_2) → ((wl_Md_turn_61 a2 Kx_2 n) (x7_1 + 1) x5_2 x5_4)))
def wl_Md_turn_36 (rows : IA) (a1 : Int32) (a2 : Int32) (Kx_1 : Int32 → IA → Prop) : Nat → Int32 → IA → Prop
  | 0, _, _ => False
  | n + 1, x4_1, fresh_1 => (256 ≤ x4_1 → (Kx_1 x4_1 fresh_1)) ∧ (¬ 256 ≤ x4_1 → (∀ x5_1 : Int32, x5_1 = (jrem x4_1 16) → (∀ x6_1 : Int32, x6_1 = (x4_1 / 16) → (∃ k_1 : Nat, wl_Md_turn_61 a2 (wx_Md_turn_88 rows a1 x4_1 fresh_1 (wl_Md_turn_36 rows a1 a2 Kx_1 n)) k_1 0 x6_1 x5_1))))
def wp_Md_turn (rows : IA) (fresh : IA) (oldMask : IA) (oldRows : IA) (known : Int32) (a1 : Int32) (a2 : Int32) (a3 : Int32) (Q : Int32 → IA → IA → IA → IA → Int32 → Prop) : Prop :=
  wp_Md_isMask a1 (fun r_1 => (r_1 = 0 → (Q (-2) rows fresh oldMask oldRows known)) ∧ (¬ r_1 = 0 → (wp_Md_in (Int32.toInt64 a2) 0 3 (fun r_2 => (r_2 = 0 → (Q (-2) rows fresh oldMask oldRows known)) ∧ (¬ r_2 = 0 → (wp_Md_isMask a3 (fun r_3 => (r_3 = 0 → (Q (-2) rows fresh oldMask oldRows known)) ∧ (¬ r_3 = 0 → (wp_Md_clears fresh (fun m_fresh_1 => ∃ k_2 : Nat, wl_Md_turn_36 rows a1 a2 (wx_Md_turn_117 rows oldMask oldRows known a3 Q) k_2 0 m_fresh_1))))))))))
set_option maxHeartbeats 4000000 in
theorem c_Md_turn (l : Launch) (G : GG) (ad : Nat → Nat) (forms : IA) (sizes : IA) (items : IA) (moved : IA) (latest : Int32) (rows : IA) (fresh : IA) (oldMask : IA) (oldRows : IA) (known : Int32) (drawn : Int32) (label : IA) (pile : IA) (parts : Int32) (waitX : IA) (waitY : IA) (waitSide : IA) (waits : Int32) (sign : IA) (signs : Int32) (many : IA) (a1 : Int32) (a2 : Int32) (a3 : Int32) {Q : Int32 → IA → IA → IA → IA → Int32 → Prop} (h : wp_Md_turn rows fresh oldMask oldRows known a1 a2 a3 Q) : qm_MI l yX6_turn wsX6_turn rmX6_turn G [.ref (ad 0), .int a1, .int a2, .int a3] (mw G ad forms sizes items moved latest rows fresh oldMask oldRows known drawn label pile parts waitX waitY waitSide waits sign signs many) (fun (r : Int32) (u : IA × IA × IA × IA × Int32) => Q r u.1 u.2.1 u.2.2.1 u.2.2.2.1 u.2.2.2.2) (fun (u : IA × IA × IA × IA × Int32) => mw G ad forms sizes items moved latest u.1 u.2.1 u.2.2.1 u.2.2.2.1 u.2.2.2.2 drawn label pile parts waitX waitY waitSide waits sign signs many) := by
  refine qm_mkI (cc := cX6_turn) (maxL := 9) (by decide) rfl (Nat.le_of_ble_eq_true rfl) ?_
  intro X C hret
  replace C : qm_C G 9 X cX6_turn wsX6_turn RX6 := C
  refine v_lv (lv' := [(0, .ref (ad 0)), (1, .int a1), (2, .int a2), (3, .int a3)]) rfl ?_
  unfold wp_Md_turn at h
  refine v_iload_n C dX6_turn_0 rfl 1 rfl ?_
  refine v_callSi C (c_Md_isMask l G (mw G ad forms sizes items moved latest rows fresh oldMask oldRows known drawn label pile parts waitX waitY waitSide waits sign signs many) a1 h) gX6_turn_X6_isMask rfl kX6_isMask ⟨rfl, rfl⟩ ⟨Nat.le_of_ble_eq_true rfl, Nat.le_of_ble_eq_true rfl⟩ rfl (Nat.le_of_ble_eq_true rfl) dX6_turn_1 (fun r_1 _ h => ?_)
  try dsimp only at h
  refine v_if_eq C 26 dX6_turn_4 (by decide) (fun c_5 => ?_) (fun c_5 => ?_)
  · replace h := h.1 c_5
    refine v_bipush C (-2) dX6_turn_26 (by decide) ?_
    exact hret _ _ _ (-2) (rows, fresh, oldMask, oldRows, known) h rfl dX6_turn_28
  · replace h := h.2 c_5
    refine v_iload_n C dX6_turn_7 rfl 2 rfl ?_
    refine v_i2l C dX6_turn_8 ?_
    refine v_lconst C 0 dX6_turn_9 (by decide) ?_
    refine v_ldc2 C 3 mX6_turn_w1 dX6_turn_10 ?_
    refine v_callSi C (c_Md_in l G (mw G ad forms sizes items moved latest rows fresh oldMask oldRows known drawn label pile parts waitX waitY waitSide waits sign signs many) (Int32.toInt64 a2) 0 3 h) gX6_turn_X6_in rfl kX6_in ⟨rfl, rfl⟩ ⟨Nat.le_of_ble_eq_true rfl, Nat.le_of_ble_eq_true rfl⟩ rfl (Nat.le_of_ble_eq_true rfl) dX6_turn_13 (fun r_2 _ h => ?_)
    try dsimp only at h
    refine v_if_eq C 26 dX6_turn_16 (by decide) (fun c_4 => ?_) (fun c_4 => ?_)
    · replace h := h.1 c_4
      refine v_bipush C (-2) dX6_turn_26 (by decide) ?_
      exact hret _ _ _ (-2) (rows, fresh, oldMask, oldRows, known) h rfl dX6_turn_28
    · replace h := h.2 c_4
      refine v_iload_n C dX6_turn_19 rfl 3 rfl ?_
      refine v_callSi C (c_Md_isMask l G (mw G ad forms sizes items moved latest rows fresh oldMask oldRows known drawn label pile parts waitX waitY waitSide waits sign signs many) a3 h) gX6_turn_X6_isMask rfl kX6_isMask ⟨rfl, rfl⟩ ⟨Nat.le_of_ble_eq_true rfl, Nat.le_of_ble_eq_true rfl⟩ rfl (Nat.le_of_ble_eq_true rfl) dX6_turn_20 (fun r_3 _ h => ?_)
      try dsimp only at h
      refine v_if_ne C 29 dX6_turn_23 (by decide) (fun c_3 => ?_) (fun c_3 => ?_)
      · replace h := h.2 c_3
        refine v_aload_n C dX6_turn_29 rfl 0 rfl ?_
        refine v_callVv C (c_Md_clears l G ad forms sizes items moved latest rows fresh oldMask oldRows known drawn label pile parts waitX waitY waitSide waits sign signs many h) 0 rfl rfl gX6_turn_X6_clears rfl kX6_clears ⟨rfl, rfl⟩ ⟨Nat.le_of_ble_eq_true rfl, Nat.le_of_ble_eq_true rfl⟩ rfl (Nat.le_of_ble_eq_true rfl) dX6_turn_30 (fun m_fresh_1 h => ?_)
        try dsimp only at h
        refine v_world (ws' := mw G ad forms sizes items moved latest rows m_fresh_1 oldMask oldRows known drawn label pile parts waitX waitY waitSide waits sign signs many) rfl ?_
        refine v_iconst C 0 dX6_turn_33 (by decide) ?_
        refine v_istore C [(4, .int 0), (0, .ref (ad 0)), (1, .int a1), (2, .int a2), (3, .int a3)] dX6_turn_34 (by decide) rfl ?_
        have hx_1 : ∀ (x4_2 : Int32) (fresh_2 : IA), (wx_Md_turn_117 rows oldMask oldRows known a3 Q) x4_2 fresh_2 → qm_V l G rmX6_turn 9 X (mw G ad forms sizes items moved latest rows fresh_2 oldMask oldRows known drawn label pile parts waitX waitY waitSide waits sign signs many) [(4, .int x4_2), (0, .ref (ad 0)), (1, .int a1), (2, .int a2), (3, .int a3)] 117 [] := by
          intro x4_2 fresh_2 h
          unfold wx_Md_turn_117 at h
          refine v_aload_n C dX6_turn_117 rfl 1 rfl ?_
          refine v_iload_n C dX6_turn_118 rfl 4 rfl ?_
          refine v_callVi C (c_Md_become l G ad forms sizes items moved latest rows fresh_2 oldMask oldRows known drawn label pile parts waitX waitY waitSide waits sign signs many a3 h) 0 rfl rfl gX6_turn_X6_become rfl kX6_become ⟨rfl, rfl⟩ ⟨Nat.le_of_ble_eq_true rfl, Nat.le_of_ble_eq_true rfl⟩ rfl (Nat.le_of_ble_eq_true rfl) dX6_turn_119 (fun r_4 u h => ?_)
          obtain ⟨m_rows_1, m_oldMask_1, m_oldRows_1, m_known_1⟩ := u
          try dsimp only at h
          refine v_world (ws' := mw G ad forms sizes items moved latest m_rows_1 fresh_2 m_oldMask_1 m_oldRows_1 m_known_1 drawn label pile parts waitX waitY waitSide waits sign signs many) rfl ?_
          exact hret _ _ _ r_4 (m_rows_1, fresh_2, m_oldMask_1, m_oldRows_1, m_known_1) h rfl dX6_turn_122
        have hl_2 : ∀ n_1 : Nat, ∀ (x4_1 : Int32) (fresh_1 : IA), wl_Md_turn_36 rows a1 a2 (wx_Md_turn_117 rows oldMask oldRows known a3 Q) n_1 x4_1 fresh_1 → qm_V l G rmX6_turn 9 X (mw G ad forms sizes items moved latest rows fresh_1 oldMask oldRows known drawn label pile parts waitX waitY waitSide waits sign signs many) [(4, .int x4_1), (0, .ref (ad 0)), (1, .int a1), (2, .int a2), (3, .int a3)] 36 [] := by
          intro n_1
          induction n_1 with
          | zero =>
            intro x4_1 fresh_1 h
            exact False.elim h
          | succ n_1 ih_1 =>
            intro x4_1 fresh_1 h
            rw [wl_Md_turn_36] at h
            refine v_iload C dX6_turn_36 0 rfl ?_
            refine v_sipush C 256 dX6_turn_38 (by decide) ?_
            refine v_icmp_ge C 117 dX6_turn_41 (by decide) (fun c_2 => ?_) (fun c_2 => ?_)
            · replace h := h.1 c_2
              exact hx_1 x4_1 fresh_1 h
            · replace h := h.2 c_2
              refine v_iload C dX6_turn_44 0 rfl ?_
              refine v_bipush C 16 dX6_turn_46 (by decide) ?_
              refine v_irem C dX6_turn_48 (by decide) ?_
              refine v_topi (fun x5_1 ex5_1 => ?_)
              replace h := h x5_1 ex5_1
              refine v_istore C [(5, .int x5_1), (4, .int x4_1), (0, .ref (ad 0)), (1, .int a1), (2, .int a2), (3, .int a3)] dX6_turn_49 (by decide) rfl ?_
              refine v_iload C dX6_turn_51 1 rfl ?_
              refine v_bipush C 16 dX6_turn_53 (by decide) ?_
              refine v_idiv C dX6_turn_55 (by decide) ?_
              refine v_topi (fun x6_1 ex6_1 => ?_)
              replace h := h x6_1 ex6_1
              refine v_istore C [(6, .int x6_1), (5, .int x5_1), (4, .int x4_1), (0, .ref (ad 0)), (1, .int a1), (2, .int a2), (3, .int a3)] dX6_turn_56 (by decide) rfl ?_
              refine v_iconst C 0 dX6_turn_58 (by decide) ?_
              refine v_istore C [(7, .int 0), (6, .int x6_1), (5, .int x5_1), (4, .int x4_1), (0, .ref (ad 0)), (1, .int a1), (2, .int a2), (3, .int a3)] dX6_turn_59 (by decide) rfl ?_
              have hx_2 : ∀ (x7_2 : Int32) (x6_3 : Int32) (x5_3 : Int32), (wx_Md_turn_88 rows a1 x4_1 fresh_1 (wl_Md_turn_36 rows a1 a2 (wx_Md_turn_117 rows oldMask oldRows known a3 Q) n_1)) x7_2 x6_3 x5_3 → qm_V l G rmX6_turn 9 X (mw G ad forms sizes items moved latest rows fresh_1 oldMask oldRows known drawn label pile parts waitX waitY waitSide waits sign signs many) [(7, .int x7_2), (6, .int x6_3), (5, .int x5_3), (4, .int x4_1), (0, .ref (ad 0)), (1, .int a1), (2, .int a2), (3, .int a3)] 88 [] := by
                intro x7_2 x6_3 x5_3 h
                unfold wx_Md_turn_88 at h
                refine v_aload_n C dX6_turn_88 rfl 4 rfl ?_
                refine v_iload C dX6_turn_89 2 rfl ?_
                refine v_iload C dX6_turn_91 1 rfl ?_
                refine v_aload_n C dX6_turn_93 rfl 4 rfl ?_
                refine v_iload_n C dX6_turn_94 rfl 5 rfl ?_
                refine v_iload C dX6_turn_95 3 rfl ?_
                refine v_bipush C 16 dX6_turn_97 (by decide) ?_
                refine v_irem C dX6_turn_99 (by decide) ?_
                refine v_iload C dX6_turn_100 3 rfl ?_
                refine v_bipush C 16 dX6_turn_102 (by decide) ?_
                refine v_idiv C dX6_turn_104 (by decide) ?_
                refine v_callVi C (c_Md_dark l G ad forms sizes items moved latest rows fresh_1 oldMask oldRows known drawn label pile parts waitX waitY waitSide waits sign signs many a1 (jrem x4_1 16) (x4_1 / 16) h) 0 rfl rfl gX6_turn_X6_dark rfl kX6_dark ⟨rfl, rfl⟩ ⟨Nat.le_of_ble_eq_true rfl, Nat.le_of_ble_eq_true rfl⟩ rfl (Nat.le_of_ble_eq_true rfl) dX6_turn_105 (fun r_5 _ h => ?_)
                try dsimp only at h
                refine v_callVv C (c_Md_sets l G ad forms sizes items moved latest rows fresh_1 oldMask oldRows known drawn label pile parts waitX waitY waitSide waits sign signs many x5_3 x6_3 r_5 h) 0 rfl rfl gX6_turn_X6_sets rfl kX6_sets ⟨rfl, rfl⟩ ⟨Nat.le_of_ble_eq_true rfl, Nat.le_of_ble_eq_true rfl⟩ rfl (Nat.le_of_ble_eq_true rfl) dX6_turn_108 (fun m_fresh_2 h => ?_)
                try dsimp only at h
                refine v_world (ws' := mw G ad forms sizes items moved latest rows m_fresh_2 oldMask oldRows known drawn label pile parts waitX waitY waitSide waits sign signs many) rfl ?_
                refine v_iinc C (x4_1 + 1) 3 [(4, .int (x4_1 + 1)), (7, .int x7_2), (6, .int x6_3), (5, .int x5_3), (0, .ref (ad 0)), (1, .int a1), (2, .int a2), (3, .int a3)] dX6_turn_111 rfl rfl (by decide) rfl ?_
                refine v_goto C 36 dX6_turn_114 (by decide) ?_
                refine v_perm [0, 4, 5, 6, 7] rfl ?_
                exact ih_1 (x4_1 + 1) m_fresh_2 h
              have hl_1 : ∀ n_2 : Nat, ∀ (x7_1 : Int32) (x6_2 : Int32) (x5_2 : Int32), wl_Md_turn_61 a2 (wx_Md_turn_88 rows a1 x4_1 fresh_1 (wl_Md_turn_36 rows a1 a2 (wx_Md_turn_117 rows oldMask oldRows known a3 Q) n_1)) n_2 x7_1 x6_2 x5_2 → qm_V l G rmX6_turn 9 X (mw G ad forms sizes items moved latest rows fresh_1 oldMask oldRows known drawn label pile parts waitX waitY waitSide waits sign signs many) [(7, .int x7_1), (6, .int x6_2), (5, .int x5_2), (4, .int x4_1), (0, .ref (ad 0)), (1, .int a1), (2, .int a2), (3, .int a3)] 61 [] := by
                intro n_2
                induction n_2 with
                | zero =>
                  intro x7_1 x6_2 x5_2 h
                  exact False.elim h
                | succ n_2 ih_2 =>
                  intro x7_1 x6_2 x5_2 h
                  rw [wl_Md_turn_61] at h
                  refine v_iload C dX6_turn_61 0 rfl ?_
                  refine v_iload_n C dX6_turn_63 rfl 6 rfl ?_
                  refine v_icmp_ge C 88 dX6_turn_64 (by decide) (fun c_1 => ?_) (fun c_1 => ?_)
                  · replace h := h.1 c_1
                    exact hx_2 x7_1 x6_2 x5_2 h
                  · replace h := h.2 c_1
                    refine v_iload C dX6_turn_67 2 rfl ?_
                    refine v_istore C [(8, .int x5_2), (7, .int x7_1), (6, .int x6_2), (5, .int x5_2), (4, .int x4_1), (0, .ref (ad 0)), (1, .int a1), (2, .int a2), (3, .int a3)] dX6_turn_69 (by decide) rfl ?_
                    refine v_bipush C 15 dX6_turn_71 (by decide) ?_
                    refine v_iload C dX6_turn_73 2 rfl ?_
                    refine v_isub C dX6_turn_75 ?_
                    refine v_topi (fun x5_4 ex5_4 => ?_)
                    replace h := h x5_4 ex5_4
                    refine v_istore C [(5, .int x5_4), (8, .int x5_2), (7, .int x7_1), (6, .int x6_2), (4, .int x4_1), (0, .ref (ad 0)), (1, .int a1), (2, .int a2), (3, .int a3)] dX6_turn_76 (by decide) rfl ?_
                    refine v_iload C dX6_turn_78 1 rfl ?_
                    refine v_istore C [(6, .int x5_2), (5, .int x5_4), (8, .int x5_2), (7, .int x7_1), (4, .int x4_1), (0, .ref (ad 0)), (1, .int a1), (2, .int a2), (3, .int a3)] dX6_turn_80 (by decide) rfl ?_
                    refine v_iinc C (x7_1 + 1) 3 [(7, .int (x7_1 + 1)), (6, .int x5_2), (5, .int x5_4), (8, .int x5_2), (4, .int x4_1), (0, .ref (ad 0)), (1, .int a1), (2, .int a2), (3, .int a3)] dX6_turn_82 rfl rfl (by decide) rfl ?_
                    refine v_goto C 61 dX6_turn_85 (by decide) ?_
                    refine v_perm [0, 1, 2, 4, 5, 6, 7, 8] rfl ?_
                    exact ih_2 (x7_1 + 1) x5_2 x5_4 h
              obtain ⟨k_1, h⟩ := h
              exact hl_1 k_1 0 x6_1 x5_1 h
        obtain ⟨k_2, h⟩ := h
        exact hl_2 k_2 0 m_fresh_1 h
      · replace h := h.1 c_3
        refine v_bipush C (-2) dX6_turn_26 (by decide) ?_
        exact hret _ _ _ (-2) (rows, fresh, oldMask, oldRows, known) h rfl dX6_turn_28
-- QuarterMasksModel.nearOf
def rmX6_nearOf : Room := { frames := 4, cells := 0, slots := 0, locals := 109 }
theorem kX6_nearOf : yX6_nearOf.cls = RX6 ∧ yX6_nearOf.cls ≠ "java/lang/invoke/MethodHandle" ∧ yX6_nearOf.cls ≠ "java/lang/invoke/VarHandle" ∧ (parseMethodDescriptor yX6_nearOf.desc).map (fun d => d.parameters.length) = some 3 := by decide +kernel
def wl_Md_nearOf_6 (rows : IA) (a1 : Int32) (a2 : Int32) (a3 : Int32) (Q : Int32 → Prop) : Nat → Int32 → Int32 → Prop
  | 0, _, _ => False
  | n + 1, x5_1, x4_1 => (256 ≤ x5_1 → (Q x4_1)) ∧ (¬ 256 ≤ x5_1 → (wp_Md_apart a2 (jrem x5_1 16) (fun r_1 => wp_Md_apart a3 (x5_1 / 16) (fun r_2 => ∀ x6_1 : Int32, x6_1 = (r_1 + r_2) → (wp_Md_dark rows a1 (jrem x5_1 16) (x5_1 / 16) (fun r_3 => jn (fun (t_1 : Int32) => (wl_Md_nearOf_6 rows a1 a2 a3 Q n) (x5_1 + 1) t_1) (fun K_1 : Int32 → Prop => (r_3 = 1 → (jn (K_1 x6_1) (fun K_2 : Prop => (x4_1 = (-1) → (K_2)) ∧ (¬ x4_1 = (-1) → ((x4_1 ≤ x6_1 → (K_1 x4_1)) ∧ (¬ x4_1 ≤ x6_1 → (K_2))))))) ∧ (¬ r_3 = 1 → (K_1 x4_1)))))))))
def wp_Md_nearOf (rows : IA) (a1 : Int32) (a2 : Int32) (a3 : Int32) (Q : Int32 → Prop) : Prop :=
  ∃ k_1 : Nat, wl_Md_nearOf_6 rows a1 a2 a3 Q k_1 0 (-1)
set_option maxHeartbeats 4000000 in
theorem c_Md_nearOf (l : Launch) (G : GG) (ad : Nat → Nat) (forms : IA) (sizes : IA) (items : IA) (moved : IA) (latest : Int32) (rows : IA) (fresh : IA) (oldMask : IA) (oldRows : IA) (known : Int32) (drawn : Int32) (label : IA) (pile : IA) (parts : Int32) (waitX : IA) (waitY : IA) (waitSide : IA) (waits : Int32) (sign : IA) (signs : Int32) (many : IA) (a1 : Int32) (a2 : Int32) (a3 : Int32) {Q : Int32 → Prop} (h : wp_Md_nearOf rows a1 a2 a3 Q) : qm_MI l yX6_nearOf wsX6_nearOf rmX6_nearOf G [.ref (ad 0), .int a1, .int a2, .int a3] (mw G ad forms sizes items moved latest rows fresh oldMask oldRows known drawn label pile parts waitX waitY waitSide waits sign signs many) (fun (r : Int32) (_ : Unit) => Q r) (fun (_ : Unit) => mw G ad forms sizes items moved latest rows fresh oldMask oldRows known drawn label pile parts waitX waitY waitSide waits sign signs many) := by
  refine qm_mkI (cc := cX6_nearOf) (maxL := 7) (by decide) rfl (Nat.le_of_ble_eq_true rfl) ?_
  intro X C hret
  replace C : qm_C G 7 X cX6_nearOf wsX6_nearOf RX6 := C
  refine v_lv (lv' := [(0, .ref (ad 0)), (1, .int a1), (2, .int a2), (3, .int a3)]) rfl ?_
  unfold wp_Md_nearOf at h
  refine v_iconst C (-1) dX6_nearOf_0 (by decide) ?_
  refine v_istore C [(4, .int (-1)), (0, .ref (ad 0)), (1, .int a1), (2, .int a2), (3, .int a3)] dX6_nearOf_1 (by decide) rfl ?_
  refine v_iconst C 0 dX6_nearOf_3 (by decide) ?_
  refine v_istore C [(5, .int 0), (4, .int (-1)), (0, .ref (ad 0)), (1, .int a1), (2, .int a2), (3, .int a3)] dX6_nearOf_4 (by decide) rfl ?_
  have hl_1 : ∀ n_1 : Nat, ∀ (x5_1 : Int32) (x4_1 : Int32), wl_Md_nearOf_6 rows a1 a2 a3 Q n_1 x5_1 x4_1 → qm_V l G rmX6_nearOf 7 X (mw G ad forms sizes items moved latest rows fresh oldMask oldRows known drawn label pile parts waitX waitY waitSide waits sign signs many) [(5, .int x5_1), (4, .int x4_1), (0, .ref (ad 0)), (1, .int a1), (2, .int a2), (3, .int a3)] 6 [] := by
    intro n_1
    induction n_1 with
    | zero =>
      intro x5_1 x4_1 h
      exact False.elim h
    | succ n_1 ih_1 =>
      intro x5_1 x4_1 h
      rw [wl_Md_nearOf_6] at h
      refine v_iload C dX6_nearOf_6 0 rfl ?_
      refine v_sipush C 256 dX6_nearOf_8 (by decide) ?_
      refine v_icmp_ge C 82 dX6_nearOf_11 (by decide) (fun c_4 => ?_) (fun c_4 => ?_)
      · replace h := h.1 c_4
        refine v_iload C dX6_nearOf_82 1 rfl ?_
        exact hret _ _ _ x4_1 () h rfl dX6_nearOf_84
      · replace h := h.2 c_4
        refine v_iload_n C dX6_nearOf_14 rfl 4 rfl ?_
        refine v_iload C dX6_nearOf_15 0 rfl ?_
        refine v_bipush C 16 dX6_nearOf_17 (by decide) ?_
        refine v_irem C dX6_nearOf_19 (by decide) ?_
        refine v_callSi C (c_Md_apart l G (mw G ad forms sizes items moved latest rows fresh oldMask oldRows known drawn label pile parts waitX waitY waitSide waits sign signs many) a2 (jrem x5_1 16) h) gX6_nearOf_X6_apart rfl kX6_apart ⟨rfl, rfl⟩ ⟨Nat.le_of_ble_eq_true rfl, Nat.le_of_ble_eq_true rfl⟩ rfl (Nat.le_of_ble_eq_true rfl) dX6_nearOf_20 (fun r_1 _ h => ?_)
        try dsimp only at h
        refine v_iload_n C dX6_nearOf_23 rfl 5 rfl ?_
        refine v_iload C dX6_nearOf_24 0 rfl ?_
        refine v_bipush C 16 dX6_nearOf_26 (by decide) ?_
        refine v_idiv C dX6_nearOf_28 (by decide) ?_
        refine v_callSi C (c_Md_apart l G (mw G ad forms sizes items moved latest rows fresh oldMask oldRows known drawn label pile parts waitX waitY waitSide waits sign signs many) a3 (x5_1 / 16) h) gX6_nearOf_X6_apart rfl kX6_apart ⟨rfl, rfl⟩ ⟨Nat.le_of_ble_eq_true rfl, Nat.le_of_ble_eq_true rfl⟩ rfl (Nat.le_of_ble_eq_true rfl) dX6_nearOf_29 (fun r_2 _ h => ?_)
        try dsimp only at h
        refine v_iadd C dX6_nearOf_32 ?_
        refine v_topi (fun x6_1 ex6_1 => ?_)
        replace h := h x6_1 ex6_1
        refine v_istore C [(6, .int x6_1), (5, .int x5_1), (4, .int x4_1), (0, .ref (ad 0)), (1, .int a1), (2, .int a2), (3, .int a3)] dX6_nearOf_33 (by decide) rfl ?_
        refine v_aload_n C dX6_nearOf_35 rfl 3 rfl ?_
        refine v_iload_n C dX6_nearOf_36 rfl 4 rfl ?_
        refine v_iload C dX6_nearOf_37 1 rfl ?_
        refine v_bipush C 16 dX6_nearOf_39 (by decide) ?_
        refine v_irem C dX6_nearOf_41 (by decide) ?_
        refine v_iload C dX6_nearOf_42 1 rfl ?_
        refine v_bipush C 16 dX6_nearOf_44 (by decide) ?_
        refine v_idiv C dX6_nearOf_46 (by decide) ?_
        refine v_callVi C (c_Md_dark l G ad forms sizes items moved latest rows fresh oldMask oldRows known drawn label pile parts waitX waitY waitSide waits sign signs many a1 (jrem x5_1 16) (x5_1 / 16) h) 0 rfl rfl gX6_nearOf_X6_dark rfl kX6_dark ⟨rfl, rfl⟩ ⟨Nat.le_of_ble_eq_true rfl, Nat.le_of_ble_eq_true rfl⟩ rfl (Nat.le_of_ble_eq_true rfl) dX6_nearOf_47 (fun r_3 _ h => ?_)
        try dsimp only at h
        refine v_iconst C 1 dX6_nearOf_50 (by decide) ?_
        have hJ_1 : ∀ (t_1 : Int32), (fun (t_1 : Int32) => (wl_Md_nearOf_6 rows a1 a2 a3 Q n_1) (x5_1 + 1) t_1) t_1 → qm_V l G rmX6_nearOf 7 X (mw G ad forms sizes items moved latest rows fresh oldMask oldRows known drawn label pile parts waitX waitY waitSide waits sign signs many) [(6, .int x6_1), (5, .int x5_1), (4, .int x4_1), (0, .ref (ad 0)), (1, .int a1), (2, .int a2), (3, .int a3)] 74 [.int t_1] := by
          intro t_1 h
          try dsimp only at h
          refine v_istore C [(4, .int t_1), (6, .int x6_1), (5, .int x5_1), (0, .ref (ad 0)), (1, .int a1), (2, .int a2), (3, .int a3)] dX6_nearOf_74 (by decide) rfl ?_
          refine v_iinc C (x5_1 + 1) 2 [(5, .int (x5_1 + 1)), (4, .int t_1), (6, .int x6_1), (0, .ref (ad 0)), (1, .int a1), (2, .int a2), (3, .int a3)] dX6_nearOf_76 rfl rfl (by decide) rfl ?_
          refine v_goto C 6 dX6_nearOf_79 (by decide) ?_
          refine v_perm [0, 1, 3, 4, 5, 6] rfl ?_
          exact ih_1 (x5_1 + 1) t_1 h
        replace h := jn_use h
        try dsimp only at h
        refine v_icmp_ne C 72 dX6_nearOf_51 (by decide) (fun c_3 => ?_) (fun c_3 => ?_)
        · replace h := h.2 c_3
          refine v_iload C dX6_nearOf_72 2 rfl ?_
          exact hJ_1 x4_1 h
        · replace h := h.1 c_3
          refine v_iload C dX6_nearOf_54 2 rfl ?_
          refine v_iconst C (-1) dX6_nearOf_56 (by decide) ?_
          have hJ_2 : ((fun (t_1 : Int32) => (wl_Md_nearOf_6 rows a1 a2 a3 Q n_1) (x5_1 + 1) t_1) x6_1) → qm_V l G rmX6_nearOf 7 X (mw G ad forms sizes items moved latest rows fresh oldMask oldRows known drawn label pile parts waitX waitY waitSide waits sign signs many) [(6, .int x6_1), (5, .int x5_1), (4, .int x4_1), (0, .ref (ad 0)), (1, .int a1), (2, .int a2), (3, .int a3)] 67 [] := by
            intro h
            try dsimp only at h
            refine v_iload C dX6_nearOf_67 0 rfl ?_
            refine v_goto C 74 dX6_nearOf_69 (by decide) ?_
            exact hJ_1 x6_1 h
          replace h := jn_use h
          try dsimp only at h
          refine v_icmp_eq C 67 dX6_nearOf_57 (by decide) (fun c_2 => ?_) (fun c_2 => ?_)
          · replace h := h.1 c_2
            exact hJ_2 h
          · replace h := h.2 c_2
            refine v_iload C dX6_nearOf_60 0 rfl ?_
            refine v_iload C dX6_nearOf_62 2 rfl ?_
            refine v_icmp_ge C 72 dX6_nearOf_64 (by decide) (fun c_1 => ?_) (fun c_1 => ?_)
            · replace h := h.1 c_1
              refine v_iload C dX6_nearOf_72 2 rfl ?_
              exact hJ_1 x4_1 h
            · replace h := h.2 c_1
              exact hJ_2 h
  obtain ⟨k_1, h⟩ := h
  exact hl_1 k_1 0 (-1) h
-- QuarterMasksModel.band
def rmX6_band : Room := { frames := 6, cells := 0, slots := 0, locals := 153 }
theorem kX6_band : yX6_band.cls = RX6 ∧ yX6_band.cls ≠ "java/lang/invoke/MethodHandle" ∧ yX6_band.cls ≠ "java/lang/invoke/VarHandle" ∧ (parseMethodDescriptor yX6_band.desc).map (fun d => d.parameters.length) = some 3 := by decide +kernel
theorem mX6_band_w1 : Cond.constantLong RX6 139 (30) ∈ wsX6_band := List.mem_of_getElem? (i := 1) rfl
def wx_Md_band_94 (rows : IA) (oldMask : IA) (oldRows : IA) (known : Int32) (a3 : Int32) (Q : Int32 → IA → IA → IA → IA → Int32 → Prop) (x4_2 : Int32) (fresh_2 : IA) : Prop :=
  wp_Md_become rows fresh_2 oldMask oldRows known a3 (fun r_4 m_rows_1 m_oldMask_1 m_oldRows_1 m_known_1 => Q r_4 m_rows_1 fresh_2 m_oldMask_1 m_oldRows_1 m_known_1)
def wj_Md_band_85 (x4_1 : Int32) (fresh_1 : IA) (Kh_1 : Int32 → IA → Prop) (t_1 : Int32) : Prop :=
  wp_Md_sets fresh_1 (jrem x4_1 16) (x4_1 / 16) t_1 (fun m_fresh_2 => Kh_1 (x4_1 + 1) m_fresh_2)
def wl_Md_band_36 (rows : IA) (a1 : Int32) (a2 : Int32) (Kx_1 : Int32 → IA → Prop) : Nat → Int32 → IA → Prop
  | 0, _, _ => False
  | n + 1, x4_1, fresh_1 => (256 ≤ x4_1 → (Kx_1 x4_1 fresh_1)) ∧ (¬ 256 ≤ x4_1 → (wp_Md_nearOf rows a1 (jrem x4_1 16) (x4_1 / 16) (fun r_5 => wp_Md_in (Int32.toInt64 r_5) 0 (Int32.toInt64 a2) (fun r_6 => jn (wj_Md_band_85 x4_1 fresh_1 (wl_Md_band_36 rows a1 a2 Kx_1 n)) (fun K_1 : Int32 → Prop => (r_6 = 0 → (K_1 0)) ∧ (¬ r_6 = 0 → (K_1 1)))))))
def wp_Md_band (rows : IA) (fresh : IA) (oldMask : IA) (oldRows : IA) (known : Int32) (a1 : Int32) (a2 : Int32) (a3 : Int32) (Q : Int32 → IA → IA → IA → IA → Int32 → Prop) : Prop :=
  wp_Md_isMask a1 (fun r_1 => (r_1 = 0 → (Q (-2) rows fresh oldMask oldRows known)) ∧ (¬ r_1 = 0 → (wp_Md_in (Int32.toInt64 a2) 0 30 (fun r_2 => (r_2 = 0 → (Q (-2) rows fresh oldMask oldRows known)) ∧ (¬ r_2 = 0 → (wp_Md_isMask a3 (fun r_3 => (r_3 = 0 → (Q (-2) rows fresh oldMask oldRows known)) ∧ (¬ r_3 = 0 → (wp_Md_clears fresh (fun m_fresh_1 => ∃ k_1 : Nat, wl_Md_band_36 rows a1 a2 (wx_Md_band_94 rows oldMask oldRows known a3 Q) k_1 0 m_fresh_1))))))))))
set_option maxHeartbeats 4000000 in
theorem c_Md_band (l : Launch) (G : GG) (ad : Nat → Nat) (forms : IA) (sizes : IA) (items : IA) (moved : IA) (latest : Int32) (rows : IA) (fresh : IA) (oldMask : IA) (oldRows : IA) (known : Int32) (drawn : Int32) (label : IA) (pile : IA) (parts : Int32) (waitX : IA) (waitY : IA) (waitSide : IA) (waits : Int32) (sign : IA) (signs : Int32) (many : IA) (a1 : Int32) (a2 : Int32) (a3 : Int32) {Q : Int32 → IA → IA → IA → IA → Int32 → Prop} (h : wp_Md_band rows fresh oldMask oldRows known a1 a2 a3 Q) : qm_MI l yX6_band wsX6_band rmX6_band G [.ref (ad 0), .int a1, .int a2, .int a3] (mw G ad forms sizes items moved latest rows fresh oldMask oldRows known drawn label pile parts waitX waitY waitSide waits sign signs many) (fun (r : Int32) (u : IA × IA × IA × IA × Int32) => Q r u.1 u.2.1 u.2.2.1 u.2.2.2.1 u.2.2.2.2) (fun (u : IA × IA × IA × IA × Int32) => mw G ad forms sizes items moved latest u.1 u.2.1 u.2.2.1 u.2.2.2.1 u.2.2.2.2 drawn label pile parts waitX waitY waitSide waits sign signs many) := by
  refine qm_mkI (cc := cX6_band) (maxL := 5) (by decide) rfl (Nat.le_of_ble_eq_true rfl) ?_
  intro X C hret
  replace C : qm_C G 5 X cX6_band wsX6_band RX6 := C
  refine v_lv (lv' := [(0, .ref (ad 0)), (1, .int a1), (2, .int a2), (3, .int a3)]) rfl ?_
  unfold wp_Md_band at h
  refine v_iload_n C dX6_band_0 rfl 1 rfl ?_
  refine v_callSi C (c_Md_isMask l G (mw G ad forms sizes items moved latest rows fresh oldMask oldRows known drawn label pile parts waitX waitY waitSide waits sign signs many) a1 h) gX6_band_X6_isMask rfl kX6_isMask ⟨rfl, rfl⟩ ⟨Nat.le_of_ble_eq_true rfl, Nat.le_of_ble_eq_true rfl⟩ rfl (Nat.le_of_ble_eq_true rfl) dX6_band_1 (fun r_1 _ h => ?_)
  try dsimp only at h
  refine v_if_eq C 26 dX6_band_4 (by decide) (fun c_5 => ?_) (fun c_5 => ?_)
  · replace h := h.1 c_5
    refine v_bipush C (-2) dX6_band_26 (by decide) ?_
    exact hret _ _ _ (-2) (rows, fresh, oldMask, oldRows, known) h rfl dX6_band_28
  · replace h := h.2 c_5
    refine v_iload_n C dX6_band_7 rfl 2 rfl ?_
    refine v_i2l C dX6_band_8 ?_
    refine v_lconst C 0 dX6_band_9 (by decide) ?_
    refine v_ldc2 C 30 mX6_band_w1 dX6_band_10 ?_
    refine v_callSi C (c_Md_in l G (mw G ad forms sizes items moved latest rows fresh oldMask oldRows known drawn label pile parts waitX waitY waitSide waits sign signs many) (Int32.toInt64 a2) 0 30 h) gX6_band_X6_in rfl kX6_in ⟨rfl, rfl⟩ ⟨Nat.le_of_ble_eq_true rfl, Nat.le_of_ble_eq_true rfl⟩ rfl (Nat.le_of_ble_eq_true rfl) dX6_band_13 (fun r_2 _ h => ?_)
    try dsimp only at h
    refine v_if_eq C 26 dX6_band_16 (by decide) (fun c_4 => ?_) (fun c_4 => ?_)
    · replace h := h.1 c_4
      refine v_bipush C (-2) dX6_band_26 (by decide) ?_
      exact hret _ _ _ (-2) (rows, fresh, oldMask, oldRows, known) h rfl dX6_band_28
    · replace h := h.2 c_4
      refine v_iload_n C dX6_band_19 rfl 3 rfl ?_
      refine v_callSi C (c_Md_isMask l G (mw G ad forms sizes items moved latest rows fresh oldMask oldRows known drawn label pile parts waitX waitY waitSide waits sign signs many) a3 h) gX6_band_X6_isMask rfl kX6_isMask ⟨rfl, rfl⟩ ⟨Nat.le_of_ble_eq_true rfl, Nat.le_of_ble_eq_true rfl⟩ rfl (Nat.le_of_ble_eq_true rfl) dX6_band_20 (fun r_3 _ h => ?_)
      try dsimp only at h
      refine v_if_ne C 29 dX6_band_23 (by decide) (fun c_3 => ?_) (fun c_3 => ?_)
      · replace h := h.2 c_3
        refine v_aload_n C dX6_band_29 rfl 0 rfl ?_
        refine v_callVv C (c_Md_clears l G ad forms sizes items moved latest rows fresh oldMask oldRows known drawn label pile parts waitX waitY waitSide waits sign signs many h) 0 rfl rfl gX6_band_X6_clears rfl kX6_clears ⟨rfl, rfl⟩ ⟨Nat.le_of_ble_eq_true rfl, Nat.le_of_ble_eq_true rfl⟩ rfl (Nat.le_of_ble_eq_true rfl) dX6_band_30 (fun m_fresh_1 h => ?_)
        try dsimp only at h
        refine v_world (ws' := mw G ad forms sizes items moved latest rows m_fresh_1 oldMask oldRows known drawn label pile parts waitX waitY waitSide waits sign signs many) rfl ?_
        refine v_iconst C 0 dX6_band_33 (by decide) ?_
        refine v_istore C [(4, .int 0), (0, .ref (ad 0)), (1, .int a1), (2, .int a2), (3, .int a3)] dX6_band_34 (by decide) rfl ?_
        have hx_1 : ∀ (x4_2 : Int32) (fresh_2 : IA), (wx_Md_band_94 rows oldMask oldRows known a3 Q) x4_2 fresh_2 → qm_V l G rmX6_band 5 X (mw G ad forms sizes items moved latest rows fresh_2 oldMask oldRows known drawn label pile parts waitX waitY waitSide waits sign signs many) [(4, .int x4_2), (0, .ref (ad 0)), (1, .int a1), (2, .int a2), (3, .int a3)] 94 [] := by
          intro x4_2 fresh_2 h
          unfold wx_Md_band_94 at h
          refine v_aload_n C dX6_band_94 rfl 1 rfl ?_
          refine v_iload_n C dX6_band_95 rfl 4 rfl ?_
          refine v_callVi C (c_Md_become l G ad forms sizes items moved latest rows fresh_2 oldMask oldRows known drawn label pile parts waitX waitY waitSide waits sign signs many a3 h) 0 rfl rfl gX6_band_X6_become rfl kX6_become ⟨rfl, rfl⟩ ⟨Nat.le_of_ble_eq_true rfl, Nat.le_of_ble_eq_true rfl⟩ rfl (Nat.le_of_ble_eq_true rfl) dX6_band_96 (fun r_4 u h => ?_)
          obtain ⟨m_rows_1, m_oldMask_1, m_oldRows_1, m_known_1⟩ := u
          try dsimp only at h
          refine v_world (ws' := mw G ad forms sizes items moved latest m_rows_1 fresh_2 m_oldMask_1 m_oldRows_1 m_known_1 drawn label pile parts waitX waitY waitSide waits sign signs many) rfl ?_
          exact hret _ _ _ r_4 (m_rows_1, fresh_2, m_oldMask_1, m_oldRows_1, m_known_1) h rfl dX6_band_99
        have hl_1 : ∀ n_1 : Nat, ∀ (x4_1 : Int32) (fresh_1 : IA), wl_Md_band_36 rows a1 a2 (wx_Md_band_94 rows oldMask oldRows known a3 Q) n_1 x4_1 fresh_1 → qm_V l G rmX6_band 5 X (mw G ad forms sizes items moved latest rows fresh_1 oldMask oldRows known drawn label pile parts waitX waitY waitSide waits sign signs many) [(4, .int x4_1), (0, .ref (ad 0)), (1, .int a1), (2, .int a2), (3, .int a3)] 36 [] := by
          intro n_1
          induction n_1 with
          | zero =>
            intro x4_1 fresh_1 h
            exact False.elim h
          | succ n_1 ih_1 =>
            intro x4_1 fresh_1 h
            rw [wl_Md_band_36] at h
            refine v_iload C dX6_band_36 0 rfl ?_
            refine v_sipush C 256 dX6_band_38 (by decide) ?_
            refine v_icmp_ge C 94 dX6_band_41 (by decide) (fun c_2 => ?_) (fun c_2 => ?_)
            · replace h := h.1 c_2
              exact hx_1 x4_1 fresh_1 h
            · replace h := h.2 c_2
              refine v_aload_n C dX6_band_44 rfl 1 rfl ?_
              refine v_iload C dX6_band_45 0 rfl ?_
              refine v_bipush C 16 dX6_band_47 (by decide) ?_
              refine v_irem C dX6_band_49 (by decide) ?_
              refine v_iload C dX6_band_50 0 rfl ?_
              refine v_bipush C 16 dX6_band_52 (by decide) ?_
              refine v_idiv C dX6_band_54 (by decide) ?_
              refine v_aload_n C dX6_band_55 rfl 1 rfl ?_
              refine v_iload_n C dX6_band_56 rfl 2 rfl ?_
              refine v_iload C dX6_band_57 0 rfl ?_
              refine v_bipush C 16 dX6_band_59 (by decide) ?_
              refine v_irem C dX6_band_61 (by decide) ?_
              refine v_iload C dX6_band_62 0 rfl ?_
              refine v_bipush C 16 dX6_band_64 (by decide) ?_
              refine v_idiv C dX6_band_66 (by decide) ?_
              refine v_callVi C (c_Md_nearOf l G ad forms sizes items moved latest rows fresh_1 oldMask oldRows known drawn label pile parts waitX waitY waitSide waits sign signs many a1 (jrem x4_1 16) (x4_1 / 16) h) 0 rfl rfl gX6_band_X6_nearOf rfl kX6_nearOf ⟨rfl, rfl⟩ ⟨Nat.le_of_ble_eq_true rfl, Nat.le_of_ble_eq_true rfl⟩ rfl (Nat.le_of_ble_eq_true rfl) dX6_band_67 (fun r_5 _ h => ?_)
              try dsimp only at h
              refine v_i2l C dX6_band_70 ?_
              refine v_lconst C 0 dX6_band_71 (by decide) ?_
              refine v_iload_n C dX6_band_72 rfl 3 rfl ?_
              refine v_i2l C dX6_band_73 ?_
              refine v_callSi C (c_Md_in l G (mw G ad forms sizes items moved latest rows fresh_1 oldMask oldRows known drawn label pile parts waitX waitY waitSide waits sign signs many) (Int32.toInt64 r_5) 0 (Int32.toInt64 a2) h) gX6_band_X6_in rfl kX6_in ⟨rfl, rfl⟩ ⟨Nat.le_of_ble_eq_true rfl, Nat.le_of_ble_eq_true rfl⟩ rfl (Nat.le_of_ble_eq_true rfl) dX6_band_74 (fun r_6 _ h => ?_)
              try dsimp only at h
              have hJ_1 : ∀ (t_1 : Int32), (wj_Md_band_85 x4_1 fresh_1 (wl_Md_band_36 rows a1 a2 (wx_Md_band_94 rows oldMask oldRows known a3 Q) n_1)) t_1 → qm_V l G rmX6_band 5 X (mw G ad forms sizes items moved latest rows fresh_1 oldMask oldRows known drawn label pile parts waitX waitY waitSide waits sign signs many) [(4, .int x4_1), (0, .ref (ad 0)), (1, .int a1), (2, .int a2), (3, .int a3)] 85 [.int t_1, .int (x4_1 / 16), .int (jrem x4_1 16), .ref (ad 0)] := by
                intro t_1 h
                unfold wj_Md_band_85 at h
                refine v_callVv C (c_Md_sets l G ad forms sizes items moved latest rows fresh_1 oldMask oldRows known drawn label pile parts waitX waitY waitSide waits sign signs many (jrem x4_1 16) (x4_1 / 16) t_1 h) 0 rfl rfl gX6_band_X6_sets rfl kX6_sets ⟨rfl, rfl⟩ ⟨Nat.le_of_ble_eq_true rfl, Nat.le_of_ble_eq_true rfl⟩ rfl (Nat.le_of_ble_eq_true rfl) dX6_band_85 (fun m_fresh_2 h => ?_)
                try dsimp only at h
                refine v_world (ws' := mw G ad forms sizes items moved latest rows m_fresh_2 oldMask oldRows known drawn label pile parts waitX waitY waitSide waits sign signs many) rfl ?_
                refine v_iinc C (x4_1 + 1) 0 [(4, .int (x4_1 + 1)), (0, .ref (ad 0)), (1, .int a1), (2, .int a2), (3, .int a3)] dX6_band_88 rfl rfl (by decide) rfl ?_
                refine v_goto C 36 dX6_band_91 (by decide) ?_
                exact ih_1 (x4_1 + 1) m_fresh_2 h
              replace h := jn_use h
              try dsimp only at h
              refine v_if_eq C 84 dX6_band_77 (by decide) (fun c_1 => ?_) (fun c_1 => ?_)
              · replace h := h.1 c_1
                refine v_iconst C 0 dX6_band_84 (by decide) ?_
                exact hJ_1 0 h
              · replace h := h.2 c_1
                refine v_iconst C 1 dX6_band_80 (by decide) ?_
                refine v_goto C 85 dX6_band_81 (by decide) ?_
                exact hJ_1 1 h
        obtain ⟨k_1, h⟩ := h
        exact hl_1 k_1 0 m_fresh_1 h
      · replace h := h.1 c_3
        refine v_bipush C (-2) dX6_band_26 (by decide) ?_
        exact hret _ _ _ (-2) (rows, fresh, oldMask, oldRows, known) h rfl dX6_band_28
-- QuarterMasksModel.floods
def rmX6_floods : Room := { frames := 4, cells := 0, slots := 0, locals := 109 }
theorem kX6_floods : yX6_floods.cls = RX6 ∧ yX6_floods.cls ≠ "java/lang/invoke/MethodHandle" ∧ yX6_floods.cls ≠ "java/lang/invoke/VarHandle" ∧ (parseMethodDescriptor yX6_floods.desc).map (fun d => d.parameters.length) = some 3 := by decide +kernel
theorem mX6_floods_w1 : Cond.fieldLink RX6 37 "QuarterMasksModel" "pile" "[I" ∈ wsX6_floods := List.mem_of_getElem? (i := 1) rfl
theorem iX6_floods_6 : ∀ w ∈ wsX60, w ∈ wsX6_floods := fun w h => List.mem_cons_of_mem _ (List.mem_append_right _ h)
theorem mX6_floods_w2 : Cond.fieldLink RX6 34 "QuarterMasksModel" "label" "[I" ∈ wsX6_floods := List.mem_of_getElem? (i := 2) rfl
theorem mX6_floods_w3 : Cond.fieldLink RX6 144 "QuarterMasksModel" "parts" "I" ∈ wsX6_floods := List.mem_of_getElem? (i := 3) rfl
def wx_Md_floods_187 (parts : Int32) (Q : IA → IA → Int32 → Prop) (x4_2 : Int32) (label_2 : IA) (pile_2 : IA) : Prop :=
  ∀ v_parts_1 : Int32, v_parts_1 = (parts + 1) → (Q label_2 pile_2 v_parts_1)
def wj_Md_floods_100 (rows : IA) (parts : Int32) (a1 : Int32) (a2 : Int32) (x5_1 : Int32) (x6_1 : Int32) (x4_3 : Int32) (label_3 : IA) (pile_3 : IA) (Kh_2 : Int32 → Int32 → IA → IA → Prop) (x7_1 : Int32) (t_2 : Int32) : Prop :=
  ∀ x8_1 : Int32, x8_1 = ((x5_1 / 16) + t_2) → (wp_Md_isCell x7_1 x8_1 (fun r_1 => jn (fun (x4_5 : Int32) (label_5 : IA) (pile_5 : IA) => Kh_2 (x6_1 + 1) x4_5 label_5 pile_5) (fun K_1 : Int32 → IA → IA → Prop => (r_1 = 0 → (K_1 x4_3 label_3 pile_3)) ∧ (¬ r_1 = 0 → (vp_in ((16 * x8_1) + x7_1) 256 ∧ (((label_3 ((16 * x8_1) + x7_1).toNatClampNeg) = (-1) → (wp_Md_dark rows a1 x7_1 x8_1 (fun r_2 => (r_2 = a2 → (vp_in ((16 * x8_1) + x7_1) 256 ∧ (∀ f_label_2 : IA, f_label_2 = upd label_3 ((16 * x8_1) + x7_1).toNatClampNeg parts → (vp_in x4_3 256 ∧ (∀ f_pile_2 : IA, f_pile_2 = upd pile_3 x4_3.toNatClampNeg ((16 * x8_1) + x7_1) → (K_1 (x4_3 + 1) f_label_2 f_pile_2)))))) ∧ (¬ r_2 = a2 → (K_1 x4_3 label_3 pile_3))))) ∧ (¬ (label_3 ((16 * x8_1) + x7_1).toNatClampNeg) = (-1) → (K_1 x4_3 label_3 pile_3))))))))
def wj_Md_floods_71 (rows : IA) (parts : Int32) (a1 : Int32) (a2 : Int32) (x5_1 : Int32) (x6_1 : Int32) (x4_3 : Int32) (label_3 : IA) (pile_3 : IA) (Kh_2 : Int32 → Int32 → IA → IA → Prop) (t_1 : Int32) : Prop :=
  ∀ x7_1 : Int32, x7_1 = ((jrem x5_1 16) + t_1) → (jn (wj_Md_floods_100 rows parts a1 a2 x5_1 x6_1 x4_3 label_3 pile_3 Kh_2 x7_1) (fun K_2 : Int32 → Prop => (x6_1 = 2 → (K_2 1)) ∧ (¬ x6_1 = 2 → ((x6_1 = 3 → (K_2 (-1))) ∧ (¬ x6_1 = 3 → (K_2 0))))))
def wl_Md_floods_40 (rows : IA) (parts : Int32) (a1 : Int32) (a2 : Int32) (x5_1 : Int32) (Kx_2 : Int32 → Int32 → IA → IA → Prop) : Nat → Int32 → Int32 → IA → IA → Prop
  | 0, _, _, _, _ => False
  | n + 1, x6_1, x4_3, label_3, pile_3 => (4 ≤ x6_1 → (Kx_2 x6_1 x4_3 label_3 pile_3)) ∧ (¬ 4 ≤ x6_1 → (jn (wj_Md_floods_71 rows parts a1 a2 x5_1 x6_1 x4_3 label_3 pile_3 (wl_Md_floods_40 rows parts a1 a2 x5_1 Kx_2 n)) (fun K_3 : Int32 → Prop => (x6_1 = 0 → (K_3 1)) ∧ (¬ x6_1 = 0 → ((x6_1 = 1 → (K_3 (-1))) ∧ (¬ x6_1 = 1 → (K_3 0)))))))
def wl_Md_floods_20 (rows : IA) (parts : Int32) (a1 : Int32) (a2 : Int32) (Kx_1 : Int32 → IA → IA → Prop) : Nat → Int32 → IA → IA → Prop
  | 0, _, _, _ => False
  | n + 1, x4_1, label_1, pile_1 => (x4_1 ≤ 0 → (Kx_1 x4_1 label_1 pile_1)) ∧ (¬ x4_1 ≤ 0 → (vp_in (x4_1 + (-1)) 256 ∧ (∀ x5_1 : Int32, x5_1 = (pile_1 (x4_1 + (-1)).toNatClampNeg) → (∃ k_1 : Nat, wl_Md_floods_40 rows parts a1 a2 x5_1 (fun (x6_2 : Int32) (x4_4 : Int32) (label_4 : IA) (pile_4 : IA) => (wl_Md_floods_20 rows parts a1 a2 Kx_1 n) x4_4 label_4 pile_4) k_1 0 (x4_1 + (-1)) label_1 pile_1))))
def wp_Md_floods (rows : IA) (label : IA) (pile : IA) (parts : Int32) (a1 : Int32) (a2 : Int32) (a3 : Int32) (Q : IA → IA → Int32 → Prop) : Prop :=
  vp_in 0 256 ∧ (∀ f_pile_1 : IA, f_pile_1 = upd pile (0 : Int32).toNatClampNeg a3 → (vp_in a3 256 ∧ (∀ f_label_1 : IA, f_label_1 = upd label a3.toNatClampNeg parts → (∃ k_2 : Nat, wl_Md_floods_20 rows parts a1 a2 (wx_Md_floods_187 parts Q) k_2 1 f_label_1 f_pile_1))))
set_option maxHeartbeats 4000000 in
theorem c_Md_floods (l : Launch) (G : GG) (ad : Nat → Nat) (forms : IA) (sizes : IA) (items : IA) (moved : IA) (latest : Int32) (rows : IA) (fresh : IA) (oldMask : IA) (oldRows : IA) (known : Int32) (drawn : Int32) (label : IA) (pile : IA) (parts : Int32) (waitX : IA) (waitY : IA) (waitSide : IA) (waits : Int32) (sign : IA) (signs : Int32) (many : IA) (a1 : Int32) (a2 : Int32) (a3 : Int32) {Q : IA → IA → Int32 → Prop} (h : wp_Md_floods rows label pile parts a1 a2 a3 Q) : qm_MV l yX6_floods wsX6_floods rmX6_floods G [.ref (ad 0), .int a1, .int a2, .int a3] (mw G ad forms sizes items moved latest rows fresh oldMask oldRows known drawn label pile parts waitX waitY waitSide waits sign signs many) (fun (u : IA × IA × Int32) => Q u.1 u.2.1 u.2.2) (fun (u : IA × IA × Int32) => mw G ad forms sizes items moved latest rows fresh oldMask oldRows known drawn u.1 u.2.1 u.2.2 waitX waitY waitSide waits sign signs many) := by
  refine qm_mkV (cc := cX6_floods) (maxL := 9) (by decide) rfl (Nat.le_of_ble_eq_true rfl) ?_
  intro X C hret
  replace C : qm_C G 9 X cX6_floods wsX6_floods RX6 := C
  refine v_lv (lv' := [(0, .ref (ad 0)), (1, .int a1), (2, .int a2), (3, .int a3)]) rfl ?_
  unfold wp_Md_floods at h
  refine v_iconst C 1 dX6_floods_0 (by decide) ?_
  refine v_istore C [(4, .int 1), (0, .ref (ad 0)), (1, .int a1), (2, .int a2), (3, .int a3)] dX6_floods_1 (by decide) rfl ?_
  refine v_aload_n C dX6_floods_3 rfl 1 rfl ?_
  refine v_get C iX6_floods_6 0 rfl rfl 12 (by decide) mX6_floods_w1 rfl rfl dX6_floods_4 ?_
  refine v_iconst C 0 dX6_floods_7 (by decide) ?_
  refine v_iload_n C dX6_floods_8 rfl 4 rfl ?_
  obtain ⟨hin_1, h⟩ := h
  obtain ⟨f_pile_1, ef_pile_1⟩ : ∃ y : IA, y = upd pile (0 : Int32).toNatClampNeg a3 := ⟨_, rfl⟩
  replace h := h f_pile_1 ef_pile_1
  refine v_iast C 10 rfl (ws' := mw G ad forms sizes items moved latest rows fresh oldMask oldRows known drawn label f_pile_1 parts waitX waitY waitSide waits sign signs many) (by subst ef_pile_1; exact rfl) hin_1 dX6_floods_9 ?_
  refine v_aload_n C dX6_floods_10 rfl 1 rfl ?_
  refine v_get C iX6_floods_6 0 rfl rfl 11 (by decide) mX6_floods_w2 rfl rfl dX6_floods_11 ?_
  refine v_iload_n C dX6_floods_14 rfl 4 rfl ?_
  refine v_aload_n C dX6_floods_15 rfl 1 rfl ?_
  refine v_get C iX6_floods_6 0 rfl rfl 13 (by decide) mX6_floods_w3 rfl rfl dX6_floods_16 ?_
  obtain ⟨hin_2, h⟩ := h
  obtain ⟨f_label_1, ef_label_1⟩ : ∃ y : IA, y = upd label a3.toNatClampNeg parts := ⟨_, rfl⟩
  replace h := h f_label_1 ef_label_1
  refine v_iast C 9 rfl (ws' := mw G ad forms sizes items moved latest rows fresh oldMask oldRows known drawn f_label_1 f_pile_1 parts waitX waitY waitSide waits sign signs many) (by subst ef_label_1; exact rfl) hin_2 dX6_floods_19 ?_
  have hx_1 : ∀ (x4_2 : Int32) (label_2 : IA) (pile_2 : IA), (wx_Md_floods_187 parts Q) x4_2 label_2 pile_2 → qm_V l G rmX6_floods 9 X (mw G ad forms sizes items moved latest rows fresh oldMask oldRows known drawn label_2 pile_2 parts waitX waitY waitSide waits sign signs many) [(4, .int x4_2), (0, .ref (ad 0)), (1, .int a1), (2, .int a2), (3, .int a3)] 187 [] := by
    intro x4_2 label_2 pile_2 h
    unfold wx_Md_floods_187 at h
    refine v_aload_n C dX6_floods_187 rfl 1 rfl ?_
    refine v_dup C dX6_floods_188 rfl ?_
    refine v_get C iX6_floods_6 0 rfl rfl 13 (by decide) mX6_floods_w3 rfl rfl dX6_floods_189 ?_
    refine v_iconst C 1 dX6_floods_192 (by decide) ?_
    refine v_iadd C dX6_floods_193 ?_
    refine v_topi (fun v_parts_1 ev_parts_1 => ?_)
    replace h := h v_parts_1 ev_parts_1
    refine v_put C iX6_floods_6 tyX6_ok nmX6 0 rfl rfl 13 (by decide) mX6_floods_w3 rfl rfl rfl rfl rfl (Nat.le_of_ble_eq_true rfl) (ws' := mw G ad forms sizes items moved latest rows fresh oldMask oldRows known drawn label_2 pile_2 v_parts_1 waitX waitY waitSide waits sign signs many) rfl dX6_floods_194 ?_
    exact hret _ _ _ (label_2, pile_2, v_parts_1) h rfl dX6_floods_197
  have hl_2 : ∀ n_1 : Nat, ∀ (x4_1 : Int32) (label_1 : IA) (pile_1 : IA), wl_Md_floods_20 rows parts a1 a2 (wx_Md_floods_187 parts Q) n_1 x4_1 label_1 pile_1 → qm_V l G rmX6_floods 9 X (mw G ad forms sizes items moved latest rows fresh oldMask oldRows known drawn label_1 pile_1 parts waitX waitY waitSide waits sign signs many) [(4, .int x4_1), (0, .ref (ad 0)), (1, .int a1), (2, .int a2), (3, .int a3)] 20 [] := by
    intro n_1
    induction n_1 with
    | zero =>
      intro x4_1 label_1 pile_1 h
      exact False.elim h
    | succ n_1 ih_1 =>
      intro x4_1 label_1 pile_1 h
      rw [wl_Md_floods_20] at h
      refine v_iload C dX6_floods_20 0 rfl ?_
      refine v_if_le C 187 dX6_floods_22 (by decide) (fun c_9 => ?_) (fun c_9 => ?_)
      · replace h := h.1 c_9
        exact hx_1 x4_1 label_1 pile_1 h
      · replace h := h.2 c_9
        refine v_iinc C (x4_1 + (-1)) 0 [(4, .int (x4_1 + (-1))), (0, .ref (ad 0)), (1, .int a1), (2, .int a2), (3, .int a3)] dX6_floods_25 rfl rfl (by decide) rfl ?_
        refine v_aload_n C dX6_floods_28 rfl 1 rfl ?_
        refine v_get C iX6_floods_6 0 rfl rfl 12 (by decide) mX6_floods_w1 rfl rfl dX6_floods_29 ?_
        refine v_iload C dX6_floods_32 0 rfl ?_
        obtain ⟨hin_3, h⟩ := h
        refine v_iald C 10 rfl hin_3 dX6_floods_34 ?_
        refine v_topi (fun x5_1 ex5_1 => ?_)
        replace h := h x5_1 ex5_1
        refine v_istore C [(5, .int x5_1), (4, .int (x4_1 + (-1))), (0, .ref (ad 0)), (1, .int a1), (2, .int a2), (3, .int a3)] dX6_floods_35 (by decide) rfl ?_
        refine v_iconst C 0 dX6_floods_37 (by decide) ?_
        refine v_istore C [(6, .int 0), (5, .int x5_1), (4, .int (x4_1 + (-1))), (0, .ref (ad 0)), (1, .int a1), (2, .int a2), (3, .int a3)] dX6_floods_38 (by decide) rfl ?_
        have hx_2 : ∀ (x6_2 : Int32) (x4_4 : Int32) (label_4 : IA) (pile_4 : IA), (fun (x6_2 : Int32) (x4_4 : Int32) (label_4 : IA) (pile_4 : IA) => (wl_Md_floods_20 rows parts a1 a2 (wx_Md_floods_187 parts Q) n_1) x4_4 label_4 pile_4) x6_2 x4_4 label_4 pile_4 → qm_V l G rmX6_floods 9 X (mw G ad forms sizes items moved latest rows fresh oldMask oldRows known drawn label_4 pile_4 parts waitX waitY waitSide waits sign signs many) [(6, .int x6_2), (5, .int x5_1), (4, .int x4_4), (0, .ref (ad 0)), (1, .int a1), (2, .int a2), (3, .int a3)] 184 [] := by
          intro x6_2 x4_4 label_4 pile_4 h
          try dsimp only at h
          refine v_goto C 20 dX6_floods_184 (by decide) ?_
          refine v_perm [2, 3, 4, 5, 6] rfl ?_
          exact ih_1 x4_4 label_4 pile_4 h
        have hl_1 : ∀ n_2 : Nat, ∀ (x6_1 : Int32) (x4_3 : Int32) (label_3 : IA) (pile_3 : IA), wl_Md_floods_40 rows parts a1 a2 x5_1 (fun (x6_2 : Int32) (x4_4 : Int32) (label_4 : IA) (pile_4 : IA) => (wl_Md_floods_20 rows parts a1 a2 (wx_Md_floods_187 parts Q) n_1) x4_4 label_4 pile_4) n_2 x6_1 x4_3 label_3 pile_3 → qm_V l G rmX6_floods 9 X (mw G ad forms sizes items moved latest rows fresh oldMask oldRows known drawn label_3 pile_3 parts waitX waitY waitSide waits sign signs many) [(6, .int x6_1), (5, .int x5_1), (4, .int x4_3), (0, .ref (ad 0)), (1, .int a1), (2, .int a2), (3, .int a3)] 40 [] := by
          intro n_2
          induction n_2 with
          | zero =>
            intro x6_1 x4_3 label_3 pile_3 h
            exact False.elim h
          | succ n_2 ih_2 =>
            intro x6_1 x4_3 label_3 pile_3 h
            rw [wl_Md_floods_40] at h
            refine v_iload C dX6_floods_40 0 rfl ?_
            refine v_iconst C 4 dX6_floods_42 (by decide) ?_
            refine v_icmp_ge C 184 dX6_floods_43 (by decide) (fun c_8 => ?_) (fun c_8 => ?_)
            · replace h := h.1 c_8
              exact hx_2 x6_1 x4_3 label_3 pile_3 h
            · replace h := h.2 c_8
              refine v_iload C dX6_floods_46 1 rfl ?_
              refine v_bipush C 16 dX6_floods_48 (by decide) ?_
              refine v_irem C dX6_floods_50 (by decide) ?_
              refine v_iload C dX6_floods_51 0 rfl ?_
              have hJ_3 : ∀ (t_1 : Int32), (wj_Md_floods_71 rows parts a1 a2 x5_1 x6_1 x4_3 label_3 pile_3 (wl_Md_floods_40 rows parts a1 a2 x5_1 (fun (x6_2 : Int32) (x4_4 : Int32) (label_4 : IA) (pile_4 : IA) => (wl_Md_floods_20 rows parts a1 a2 (wx_Md_floods_187 parts Q) n_1) x4_4 label_4 pile_4) n_2)) t_1 → qm_V l G rmX6_floods 9 X (mw G ad forms sizes items moved latest rows fresh oldMask oldRows known drawn label_3 pile_3 parts waitX waitY waitSide waits sign signs many) [(6, .int x6_1), (5, .int x5_1), (4, .int x4_3), (0, .ref (ad 0)), (1, .int a1), (2, .int a2), (3, .int a3)] 71 [.int t_1, .int (jrem x5_1 16)] := by
                intro t_1 h
                unfold wj_Md_floods_71 at h
                refine v_iadd C dX6_floods_71 ?_
                refine v_topi (fun x7_1 ex7_1 => ?_)
                replace h := h x7_1 ex7_1
                refine v_istore C [(7, .int x7_1), (6, .int x6_1), (5, .int x5_1), (4, .int x4_3), (0, .ref (ad 0)), (1, .int a1), (2, .int a2), (3, .int a3)] dX6_floods_72 (by decide) rfl ?_
                refine v_iload C dX6_floods_74 2 rfl ?_
                refine v_bipush C 16 dX6_floods_76 (by decide) ?_
                refine v_idiv C dX6_floods_78 (by decide) ?_
                refine v_iload C dX6_floods_79 1 rfl ?_
                refine v_iconst C 2 dX6_floods_81 (by decide) ?_
                have hJ_2 : ∀ (t_2 : Int32), (wj_Md_floods_100 rows parts a1 a2 x5_1 x6_1 x4_3 label_3 pile_3 (wl_Md_floods_40 rows parts a1 a2 x5_1 (fun (x6_2 : Int32) (x4_4 : Int32) (label_4 : IA) (pile_4 : IA) => (wl_Md_floods_20 rows parts a1 a2 (wx_Md_floods_187 parts Q) n_1) x4_4 label_4 pile_4) n_2) x7_1) t_2 → qm_V l G rmX6_floods 9 X (mw G ad forms sizes items moved latest rows fresh oldMask oldRows known drawn label_3 pile_3 parts waitX waitY waitSide waits sign signs many) [(7, .int x7_1), (6, .int x6_1), (5, .int x5_1), (4, .int x4_3), (0, .ref (ad 0)), (1, .int a1), (2, .int a2), (3, .int a3)] 100 [.int t_2, .int (x5_1 / 16)] := by
                  intro t_2 h
                  unfold wj_Md_floods_100 at h
                  refine v_iadd C dX6_floods_100 ?_
                  refine v_topi (fun x8_1 ex8_1 => ?_)
                  replace h := h x8_1 ex8_1
                  refine v_istore C [(8, .int x8_1), (7, .int x7_1), (6, .int x6_1), (5, .int x5_1), (4, .int x4_3), (0, .ref (ad 0)), (1, .int a1), (2, .int a2), (3, .int a3)] dX6_floods_101 (by decide) rfl ?_
                  refine v_iload C dX6_floods_103 1 rfl ?_
                  refine v_iload C dX6_floods_105 0 rfl ?_
                  refine v_callSi C (c_Md_isCell l G (mw G ad forms sizes items moved latest rows fresh oldMask oldRows known drawn label_3 pile_3 parts waitX waitY waitSide waits sign signs many) x7_1 x8_1 h) gX6_floods_X6_isCell rfl kX6_isCell ⟨rfl, rfl⟩ ⟨Nat.le_of_ble_eq_true rfl, Nat.le_of_ble_eq_true rfl⟩ rfl (Nat.le_of_ble_eq_true rfl) dX6_floods_107 (fun r_1 _ h => ?_)
                  try dsimp only at h
                  have hJ_1 : ∀ (x4_5 : Int32) (label_5 : IA) (pile_5 : IA), (fun (x4_5 : Int32) (label_5 : IA) (pile_5 : IA) => (wl_Md_floods_40 rows parts a1 a2 x5_1 (fun (x6_2 : Int32) (x4_4 : Int32) (label_4 : IA) (pile_4 : IA) => (wl_Md_floods_20 rows parts a1 a2 (wx_Md_floods_187 parts Q) n_1) x4_4 label_4 pile_4) n_2) (x6_1 + 1) x4_5 label_5 pile_5) x4_5 label_5 pile_5 → qm_V l G rmX6_floods 9 X (mw G ad forms sizes items moved latest rows fresh oldMask oldRows known drawn label_5 pile_5 parts waitX waitY waitSide waits sign signs many) [(8, .int x8_1), (7, .int x7_1), (6, .int x6_1), (5, .int x5_1), (4, .int x4_5), (0, .ref (ad 0)), (1, .int a1), (2, .int a2), (3, .int a3)] 178 [] := by
                    intro x4_5 label_5 pile_5 h
                    try dsimp only at h
                    refine v_iinc C (x6_1 + 1) 2 [(6, .int (x6_1 + 1)), (8, .int x8_1), (7, .int x7_1), (5, .int x5_1), (4, .int x4_5), (0, .ref (ad 0)), (1, .int a1), (2, .int a2), (3, .int a3)] dX6_floods_178 rfl rfl (by decide) rfl ?_
                    refine v_goto C 40 dX6_floods_181 (by decide) ?_
                    refine v_perm [0, 3, 4, 5, 6, 7, 8] rfl ?_
                    exact ih_2 (x6_1 + 1) x4_5 label_5 pile_5 h
                  replace h := jn_use h
                  try dsimp only at h
                  refine v_if_eq C 178 dX6_floods_110 (by decide) (fun c_3 => ?_) (fun c_3 => ?_)
                  · replace h := h.1 c_3
                    exact hJ_1 x4_3 label_3 pile_3 h
                  · replace h := h.2 c_3
                    refine v_aload_n C dX6_floods_113 rfl 5 rfl ?_
                    refine v_get C iX6_floods_6 0 rfl rfl 11 (by decide) mX6_floods_w2 rfl rfl dX6_floods_114 ?_
                    refine v_bipush C 16 dX6_floods_117 (by decide) ?_
                    refine v_iload C dX6_floods_119 0 rfl ?_
                    refine v_imul C dX6_floods_121 ?_
                    refine v_iload C dX6_floods_122 1 rfl ?_
                    refine v_iadd C dX6_floods_124 ?_
                    obtain ⟨hin_4, h⟩ := h
                    refine v_iald C 9 rfl hin_4 dX6_floods_125 ?_
                    refine v_iconst C (-1) dX6_floods_126 (by decide) ?_
                    refine v_icmp_ne C 178 dX6_floods_127 (by decide) (fun c_2 => ?_) (fun c_2 => ?_)
                    · replace h := h.2 c_2
                      exact hJ_1 x4_3 label_3 pile_3 h
                    · replace h := h.1 c_2
                      refine v_aload_n C dX6_floods_130 rfl 5 rfl ?_
                      refine v_iload_n C dX6_floods_131 rfl 6 rfl ?_
                      refine v_iload C dX6_floods_132 1 rfl ?_
                      refine v_iload C dX6_floods_134 0 rfl ?_
                      refine v_callVi C (c_Md_dark l G ad forms sizes items moved latest rows fresh oldMask oldRows known drawn label_3 pile_3 parts waitX waitY waitSide waits sign signs many a1 x7_1 x8_1 h) 0 rfl rfl gX6_floods_X6_dark rfl kX6_dark ⟨rfl, rfl⟩ ⟨Nat.le_of_ble_eq_true rfl, Nat.le_of_ble_eq_true rfl⟩ rfl (Nat.le_of_ble_eq_true rfl) dX6_floods_136 (fun r_2 _ h => ?_)
                      try dsimp only at h
                      refine v_iload_n C dX6_floods_139 rfl 7 rfl ?_
                      refine v_icmp_ne C 178 dX6_floods_140 (by decide) (fun c_1 => ?_) (fun c_1 => ?_)
                      · replace h := h.2 c_1
                        exact hJ_1 x4_3 label_3 pile_3 h
                      · replace h := h.1 c_1
                        refine v_aload_n C dX6_floods_143 rfl 5 rfl ?_
                        refine v_get C iX6_floods_6 0 rfl rfl 11 (by decide) mX6_floods_w2 rfl rfl dX6_floods_144 ?_
                        refine v_bipush C 16 dX6_floods_147 (by decide) ?_
                        refine v_iload C dX6_floods_149 0 rfl ?_
                        refine v_imul C dX6_floods_151 ?_
                        refine v_iload C dX6_floods_152 1 rfl ?_
                        refine v_iadd C dX6_floods_154 ?_
                        refine v_aload_n C dX6_floods_155 rfl 5 rfl ?_
                        refine v_get C iX6_floods_6 0 rfl rfl 13 (by decide) mX6_floods_w3 rfl rfl dX6_floods_156 ?_
                        obtain ⟨hin_5, h⟩ := h
                        obtain ⟨f_label_2, ef_label_2⟩ : ∃ y : IA, y = upd label_3 ((16 * x8_1) + x7_1).toNatClampNeg parts := ⟨_, rfl⟩
                        replace h := h f_label_2 ef_label_2
                        refine v_iast C 9 rfl (ws' := mw G ad forms sizes items moved latest rows fresh oldMask oldRows known drawn f_label_2 pile_3 parts waitX waitY waitSide waits sign signs many) (by subst ef_label_2; exact rfl) hin_5 dX6_floods_159 ?_
                        refine v_aload_n C dX6_floods_160 rfl 5 rfl ?_
                        refine v_get C iX6_floods_6 0 rfl rfl 12 (by decide) mX6_floods_w1 rfl rfl dX6_floods_161 ?_
                        refine v_iload C dX6_floods_164 4 rfl ?_
                        refine v_bipush C 16 dX6_floods_166 (by decide) ?_
                        refine v_iload C dX6_floods_168 0 rfl ?_
                        refine v_imul C dX6_floods_170 ?_
                        refine v_iload C dX6_floods_171 1 rfl ?_
                        refine v_iadd C dX6_floods_173 ?_
                        obtain ⟨hin_6, h⟩ := h
                        obtain ⟨f_pile_2, ef_pile_2⟩ : ∃ y : IA, y = upd pile_3 x4_3.toNatClampNeg ((16 * x8_1) + x7_1) := ⟨_, rfl⟩
                        replace h := h f_pile_2 ef_pile_2
                        refine v_iast C 10 rfl (ws' := mw G ad forms sizes items moved latest rows fresh oldMask oldRows known drawn f_label_2 f_pile_2 parts waitX waitY waitSide waits sign signs many) (by subst ef_pile_2; exact rfl) hin_6 dX6_floods_174 ?_
                        refine v_iinc C (x4_3 + 1) 4 [(4, .int (x4_3 + 1)), (8, .int x8_1), (7, .int x7_1), (6, .int x6_1), (5, .int x5_1), (0, .ref (ad 0)), (1, .int a1), (2, .int a2), (3, .int a3)] dX6_floods_175 rfl rfl (by decide) rfl ?_
                        refine v_perm [1, 2, 3, 4, 0, 5, 6, 7, 8] rfl ?_
                        exact hJ_1 (x4_3 + 1) f_label_2 f_pile_2 h
                replace h := jn_use h
                try dsimp only at h
                refine v_icmp_ne C 89 dX6_floods_82 (by decide) (fun c_5 => ?_) (fun c_5 => ?_)
                · replace h := h.2 c_5
                  refine v_iload C dX6_floods_89 1 rfl ?_
                  refine v_iconst C 3 dX6_floods_91 (by decide) ?_
                  refine v_icmp_ne C 99 dX6_floods_92 (by decide) (fun c_4 => ?_) (fun c_4 => ?_)
                  · replace h := h.2 c_4
                    refine v_iconst C 0 dX6_floods_99 (by decide) ?_
                    exact hJ_2 0 h
                  · replace h := h.1 c_4
                    refine v_iconst C (-1) dX6_floods_95 (by decide) ?_
                    refine v_goto C 100 dX6_floods_96 (by decide) ?_
                    exact hJ_2 (-1) h
                · replace h := h.1 c_5
                  refine v_iconst C 1 dX6_floods_85 (by decide) ?_
                  refine v_goto C 100 dX6_floods_86 (by decide) ?_
                  exact hJ_2 1 h
              replace h := jn_use h
              try dsimp only at h
              refine v_if_ne C 60 dX6_floods_53 (by decide) (fun c_7 => ?_) (fun c_7 => ?_)
              · replace h := h.2 c_7
                refine v_iload C dX6_floods_60 0 rfl ?_
                refine v_iconst C 1 dX6_floods_62 (by decide) ?_
                refine v_icmp_ne C 70 dX6_floods_63 (by decide) (fun c_6 => ?_) (fun c_6 => ?_)
                · replace h := h.2 c_6
                  refine v_iconst C 0 dX6_floods_70 (by decide) ?_
                  exact hJ_3 0 h
                · replace h := h.1 c_6
                  refine v_iconst C (-1) dX6_floods_66 (by decide) ?_
                  refine v_goto C 71 dX6_floods_67 (by decide) ?_
                  exact hJ_3 (-1) h
              · replace h := h.1 c_7
                refine v_iconst C 1 dX6_floods_56 (by decide) ?_
                refine v_goto C 71 dX6_floods_57 (by decide) ?_
                exact hJ_3 1 h
        obtain ⟨k_1, h⟩ := h
        exact hl_1 k_1 0 (x4_1 + (-1)) label_1 pile_1 h
  obtain ⟨k_2, h⟩ := h
  exact hl_2 k_2 1 f_label_1 f_pile_1 h
-- QuarterMasksModel.labels
def rmX6_labels : Room := { frames := 5, cells := 0, slots := 0, locals := 137 }
theorem kX6_labels : yX6_labels.cls = RX6 ∧ yX6_labels.cls ≠ "java/lang/invoke/MethodHandle" ∧ yX6_labels.cls ≠ "java/lang/invoke/VarHandle" ∧ (parseMethodDescriptor yX6_labels.desc).map (fun d => d.parameters.length) = some 2 := by decide +kernel
theorem mX6_labels_w1 : Cond.fieldLink RX6 144 "QuarterMasksModel" "parts" "I" ∈ wsX6_labels := List.mem_of_getElem? (i := 1) rfl
theorem iX6_labels_6 : ∀ w ∈ wsX60, w ∈ wsX6_labels := fun w h => List.mem_cons_of_mem _ (List.mem_append_right _ h)
theorem mX6_labels_w2 : Cond.fieldLink RX6 34 "QuarterMasksModel" "label" "[I" ∈ wsX6_labels := List.mem_of_getElem? (i := 2) rfl
def wl_Md_labels_29 (rows : IA) (a1 : Int32) (a2 : Int32) (Q : IA → IA → Int32 → Prop) : Nat → Int32 → IA → IA → Int32 → Prop
  | 0, _, _, _, _ => False
  | n + 1, x3_3, label_3, pile_1, parts_1 => (256 ≤ x3_3 → (Q label_3 pile_1 parts_1)) ∧ (¬ 256 ≤ x3_3 → (vp_in x3_3 256 ∧ (jn (fun (label_4 : IA) (pile_2 : IA) (parts_2 : Int32) => (wl_Md_labels_29 rows a1 a2 Q n) (x3_3 + 1) label_4 pile_2 parts_2) (fun K_1 : IA → IA → Int32 → Prop => ((label_3 x3_3.toNatClampNeg) = (-1) → (wp_Md_dark rows a1 (jrem x3_3 16) (x3_3 / 16) (fun r_1 => (r_1 = a2 → (wp_Md_floods rows label_3 pile_1 parts_1 a1 a2 x3_3 (fun m_label_1 m_pile_1 m_parts_1 => K_1 m_label_1 m_pile_1 m_parts_1))) ∧ (¬ r_1 = a2 → (K_1 label_3 pile_1 parts_1))))) ∧ (¬ (label_3 x3_3.toNatClampNeg) = (-1) → (K_1 label_3 pile_1 parts_1))))))
def wx_Md_labels_27 (rows : IA) (pile : IA) (a1 : Int32) (a2 : Int32) (Q : IA → IA → Int32 → Prop) (x3_2 : Int32) (label_2 : IA) : Prop :=
  ∃ k_1 : Nat, wl_Md_labels_29 rows a1 a2 Q k_1 0 label_2 pile 0
def wl_Md_labels_7 (Kx_1 : Int32 → IA → Prop) : Nat → Int32 → IA → Prop
  | 0, _, _ => False
  | n + 1, x3_1, label_1 => (256 ≤ x3_1 → (Kx_1 x3_1 label_1)) ∧ (¬ 256 ≤ x3_1 → (vp_in x3_1 256 ∧ (∀ f_label_1 : IA, f_label_1 = upd label_1 x3_1.toNatClampNeg (-1) → ((wl_Md_labels_7 Kx_1 n) (x3_1 + 1) f_label_1))))
def wp_Md_labels (rows : IA) (label : IA) (pile : IA) (a1 : Int32) (a2 : Int32) (Q : IA → IA → Int32 → Prop) : Prop :=
  ∃ k_2 : Nat, wl_Md_labels_7 (wx_Md_labels_27 rows pile a1 a2 Q) k_2 0 label
set_option maxHeartbeats 4000000 in
theorem c_Md_labels (l : Launch) (G : GG) (ad : Nat → Nat) (forms : IA) (sizes : IA) (items : IA) (moved : IA) (latest : Int32) (rows : IA) (fresh : IA) (oldMask : IA) (oldRows : IA) (known : Int32) (drawn : Int32) (label : IA) (pile : IA) (parts : Int32) (waitX : IA) (waitY : IA) (waitSide : IA) (waits : Int32) (sign : IA) (signs : Int32) (many : IA) (a1 : Int32) (a2 : Int32) {Q : IA → IA → Int32 → Prop} (h : wp_Md_labels rows label pile a1 a2 Q) : qm_MV l yX6_labels wsX6_labels rmX6_labels G [.ref (ad 0), .int a1, .int a2] (mw G ad forms sizes items moved latest rows fresh oldMask oldRows known drawn label pile parts waitX waitY waitSide waits sign signs many) (fun (u : IA × IA × Int32) => Q u.1 u.2.1 u.2.2) (fun (u : IA × IA × Int32) => mw G ad forms sizes items moved latest rows fresh oldMask oldRows known drawn u.1 u.2.1 u.2.2 waitX waitY waitSide waits sign signs many) := by
  refine qm_mkV (cc := cX6_labels) (maxL := 4) (by decide) rfl (Nat.le_of_ble_eq_true rfl) ?_
  intro X C hret
  replace C : qm_C G 4 X cX6_labels wsX6_labels RX6 := C
  refine v_lv (lv' := [(0, .ref (ad 0)), (1, .int a1), (2, .int a2)]) rfl ?_
  unfold wp_Md_labels at h
  refine v_aload_n C dX6_labels_0 rfl 0 rfl ?_
  refine v_iconst C 0 dX6_labels_1 (by decide) ?_
  refine v_put C iX6_labels_6 tyX6_ok nmX6 0 rfl rfl 13 (by decide) mX6_labels_w1 rfl rfl rfl rfl rfl (Nat.le_of_ble_eq_true rfl) (ws' := mw G ad forms sizes items moved latest rows fresh oldMask oldRows known drawn label pile 0 waitX waitY waitSide waits sign signs many) rfl dX6_labels_2 ?_
  refine v_iconst C 0 dX6_labels_5 (by decide) ?_
  refine v_istore_n C [(3, .int 0), (0, .ref (ad 0)), (1, .int a1), (2, .int a2)] dX6_labels_6 rfl (by decide) rfl ?_
  have hx_1 : ∀ (x3_2 : Int32) (label_2 : IA), (wx_Md_labels_27 rows pile a1 a2 Q) x3_2 label_2 → qm_V l G rmX6_labels 4 X (mw G ad forms sizes items moved latest rows fresh oldMask oldRows known drawn label_2 pile 0 waitX waitY waitSide waits sign signs many) [(3, .int x3_2), (0, .ref (ad 0)), (1, .int a1), (2, .int a2)] 27 [] := by
    intro x3_2 label_2 h
    unfold wx_Md_labels_27 at h
    refine v_iconst C 0 dX6_labels_27 (by decide) ?_
    refine v_istore_n C [(3, .int 0), (0, .ref (ad 0)), (1, .int a1), (2, .int a2)] dX6_labels_28 rfl (by decide) rfl ?_
    have hl_1 : ∀ n_1 : Nat, ∀ (x3_3 : Int32) (label_3 : IA) (pile_1 : IA) (parts_1 : Int32), wl_Md_labels_29 rows a1 a2 Q n_1 x3_3 label_3 pile_1 parts_1 → qm_V l G rmX6_labels 4 X (mw G ad forms sizes items moved latest rows fresh oldMask oldRows known drawn label_3 pile_1 parts_1 waitX waitY waitSide waits sign signs many) [(3, .int x3_3), (0, .ref (ad 0)), (1, .int a1), (2, .int a2)] 29 [] := by
      intro n_1
      induction n_1 with
      | zero =>
        intro x3_3 label_3 pile_1 parts_1 h
        exact False.elim h
      | succ n_1 ih_1 =>
        intro x3_3 label_3 pile_1 parts_1 h
        rw [wl_Md_labels_29] at h
        refine v_iload_n C dX6_labels_29 rfl 0 rfl ?_
        refine v_sipush C 256 dX6_labels_30 (by decide) ?_
        refine v_icmp_ge C 76 dX6_labels_33 (by decide) (fun c_3 => ?_) (fun c_3 => ?_)
        · replace h := h.1 c_3
          exact hret _ _ _ (label_3, pile_1, parts_1) h rfl dX6_labels_76
        · replace h := h.2 c_3
          refine v_aload_n C dX6_labels_36 rfl 1 rfl ?_
          refine v_get C iX6_labels_6 0 rfl rfl 11 (by decide) mX6_labels_w2 rfl rfl dX6_labels_37 ?_
          refine v_iload_n C dX6_labels_40 rfl 0 rfl ?_
          obtain ⟨hin_1, h⟩ := h
          refine v_iald C 9 rfl hin_1 dX6_labels_41 ?_
          refine v_iconst C (-1) dX6_labels_42 (by decide) ?_
          have hJ_1 : ∀ (label_4 : IA) (pile_2 : IA) (parts_2 : Int32), (fun (label_4 : IA) (pile_2 : IA) (parts_2 : Int32) => (wl_Md_labels_29 rows a1 a2 Q n_1) (x3_3 + 1) label_4 pile_2 parts_2) label_4 pile_2 parts_2 → qm_V l G rmX6_labels 4 X (mw G ad forms sizes items moved latest rows fresh oldMask oldRows known drawn label_4 pile_2 parts_2 waitX waitY waitSide waits sign signs many) [(3, .int x3_3), (0, .ref (ad 0)), (1, .int a1), (2, .int a2)] 70 [] := by
            intro label_4 pile_2 parts_2 h
            try dsimp only at h
            refine v_iinc C (x3_3 + 1) 0 [(3, .int (x3_3 + 1)), (0, .ref (ad 0)), (1, .int a1), (2, .int a2)] dX6_labels_70 rfl rfl (by decide) rfl ?_
            refine v_goto C 29 dX6_labels_73 (by decide) ?_
            exact ih_1 (x3_3 + 1) label_4 pile_2 parts_2 h
          replace h := jn_use h
          try dsimp only at h
          refine v_icmp_ne C 70 dX6_labels_43 (by decide) (fun c_2 => ?_) (fun c_2 => ?_)
          · replace h := h.2 c_2
            exact hJ_1 label_3 pile_1 parts_1 h
          · replace h := h.1 c_2
            refine v_aload_n C dX6_labels_46 rfl 1 rfl ?_
            refine v_iload_n C dX6_labels_47 rfl 2 rfl ?_
            refine v_iload_n C dX6_labels_48 rfl 0 rfl ?_
            refine v_bipush C 16 dX6_labels_49 (by decide) ?_
            refine v_irem C dX6_labels_51 (by decide) ?_
            refine v_iload_n C dX6_labels_52 rfl 0 rfl ?_
            refine v_bipush C 16 dX6_labels_53 (by decide) ?_
            refine v_idiv C dX6_labels_55 (by decide) ?_
            refine v_callVi C (c_Md_dark l G ad forms sizes items moved latest rows fresh oldMask oldRows known drawn label_3 pile_1 parts_1 waitX waitY waitSide waits sign signs many a1 (jrem x3_3 16) (x3_3 / 16) h) 0 rfl rfl gX6_labels_X6_dark rfl kX6_dark ⟨rfl, rfl⟩ ⟨Nat.le_of_ble_eq_true rfl, Nat.le_of_ble_eq_true rfl⟩ rfl (Nat.le_of_ble_eq_true rfl) dX6_labels_56 (fun r_1 _ h => ?_)
            try dsimp only at h
            refine v_iload_n C dX6_labels_59 rfl 3 rfl ?_
            refine v_icmp_ne C 70 dX6_labels_60 (by decide) (fun c_1 => ?_) (fun c_1 => ?_)
            · replace h := h.2 c_1
              exact hJ_1 label_3 pile_1 parts_1 h
            · replace h := h.1 c_1
              refine v_aload_n C dX6_labels_63 rfl 1 rfl ?_
              refine v_iload_n C dX6_labels_64 rfl 2 rfl ?_
              refine v_iload_n C dX6_labels_65 rfl 3 rfl ?_
              refine v_iload_n C dX6_labels_66 rfl 0 rfl ?_
              refine v_callVv C (c_Md_floods l G ad forms sizes items moved latest rows fresh oldMask oldRows known drawn label_3 pile_1 parts_1 waitX waitY waitSide waits sign signs many a1 a2 x3_3 h) 0 rfl rfl gX6_labels_X6_floods rfl kX6_floods ⟨rfl, rfl⟩ ⟨Nat.le_of_ble_eq_true rfl, Nat.le_of_ble_eq_true rfl⟩ rfl (Nat.le_of_ble_eq_true rfl) dX6_labels_67 (fun u h => ?_)
              obtain ⟨m_label_1, m_pile_1, m_parts_1⟩ := u
              try dsimp only at h
              refine v_world (ws' := mw G ad forms sizes items moved latest rows fresh oldMask oldRows known drawn m_label_1 m_pile_1 m_parts_1 waitX waitY waitSide waits sign signs many) rfl ?_
              exact hJ_1 m_label_1 m_pile_1 m_parts_1 h
    obtain ⟨k_1, h⟩ := h
    exact hl_1 k_1 0 label_2 pile 0 h
  have hl_2 : ∀ n_2 : Nat, ∀ (x3_1 : Int32) (label_1 : IA), wl_Md_labels_7 (wx_Md_labels_27 rows pile a1 a2 Q) n_2 x3_1 label_1 → qm_V l G rmX6_labels 4 X (mw G ad forms sizes items moved latest rows fresh oldMask oldRows known drawn label_1 pile 0 waitX waitY waitSide waits sign signs many) [(3, .int x3_1), (0, .ref (ad 0)), (1, .int a1), (2, .int a2)] 7 [] := by
    intro n_2
    induction n_2 with
    | zero =>
      intro x3_1 label_1 h
      exact False.elim h
    | succ n_2 ih_2 =>
      intro x3_1 label_1 h
      rw [wl_Md_labels_7] at h
      refine v_iload_n C dX6_labels_7 rfl 0 rfl ?_
      refine v_sipush C 256 dX6_labels_8 (by decide) ?_
      refine v_icmp_ge C 27 dX6_labels_11 (by decide) (fun c_4 => ?_) (fun c_4 => ?_)
      · replace h := h.1 c_4
        exact hx_1 x3_1 label_1 h
      · replace h := h.2 c_4
        refine v_aload_n C dX6_labels_14 rfl 1 rfl ?_
        refine v_get C iX6_labels_6 0 rfl rfl 11 (by decide) mX6_labels_w2 rfl rfl dX6_labels_15 ?_
        refine v_iload_n C dX6_labels_18 rfl 0 rfl ?_
        refine v_iconst C (-1) dX6_labels_19 (by decide) ?_
        obtain ⟨hin_2, h⟩ := h
        obtain ⟨f_label_1, ef_label_1⟩ : ∃ y : IA, y = upd label_1 x3_1.toNatClampNeg (-1) := ⟨_, rfl⟩
        replace h := h f_label_1 ef_label_1
        refine v_iast C 9 rfl (ws' := mw G ad forms sizes items moved latest rows fresh oldMask oldRows known drawn f_label_1 pile 0 waitX waitY waitSide waits sign signs many) (by subst ef_label_1; exact rfl) hin_2 dX6_labels_20 ?_
        refine v_iinc C (x3_1 + 1) 0 [(3, .int (x3_1 + 1)), (0, .ref (ad 0)), (1, .int a1), (2, .int a2)] dX6_labels_21 rfl rfl (by decide) rfl ?_
        refine v_goto C 7 dX6_labels_24 (by decide) ?_
        exact ih_2 (x3_1 + 1) f_label_1 h
  obtain ⟨k_2, h⟩ := h
  exact hl_2 k_2 0 label h
-- QuarterMasksModel.pick
def rmX6_pick : Room := { frames := 6, cells := 0, slots := 0, locals := 160 }
theorem kX6_pick : yX6_pick.cls = RX6 ∧ yX6_pick.cls ≠ "java/lang/invoke/MethodHandle" ∧ yX6_pick.cls ≠ "java/lang/invoke/VarHandle" ∧ (parseMethodDescriptor yX6_pick.desc).map (fun d => d.parameters.length) = some 4 := by decide +kernel
theorem mX6_pick_w1 : Cond.fieldLink RX6 34 "QuarterMasksModel" "label" "[I" ∈ wsX6_pick := List.mem_of_getElem? (i := 1) rfl
theorem iX6_pick_6 : ∀ w ∈ wsX60, w ∈ wsX6_pick := fun w h => List.mem_cons_of_mem _ (List.mem_append_right _ h)
def wx_Md_pick_106 (rows : IA) (oldMask : IA) (oldRows : IA) (known : Int32) (a4 : Int32) (Q : Int32 → IA → IA → IA → IA → Int32 → IA → IA → Int32 → Prop) (m_label_1 : IA) (m_pile_1 : IA) (m_parts_1 : Int32) (x5_2 : Int32) (fresh_2 : IA) : Prop :=
  wp_Md_become rows fresh_2 oldMask oldRows known a4 (fun r_5 m_rows_1 m_oldMask_1 m_oldRows_1 m_known_1 => Q r_5 m_rows_1 fresh_2 m_oldMask_1 m_oldRows_1 m_known_1 m_label_1 m_pile_1 m_parts_1)
def wj_Md_pick_97 (x5_1 : Int32) (fresh_1 : IA) (Kh_1 : Int32 → IA → Prop) (t_1 : Int32) : Prop :=
  wp_Md_sets fresh_1 (jrem x5_1 16) (x5_1 / 16) t_1 (fun m_fresh_2 => Kh_1 (x5_1 + 1) m_fresh_2)
def wl_Md_pick_52 (a2 : Int32) (a3 : Int32) (m_label_1 : IA) (Kx_1 : Int32 → IA → Prop) : Nat → Int32 → IA → Prop
  | 0, _, _ => False
  | n + 1, x5_1, fresh_1 => (256 ≤ x5_1 → (Kx_1 x5_1 fresh_1)) ∧ (¬ 256 ≤ x5_1 → (vp_in x5_1 256 ∧ (vp_in ((16 * a3) + a2) 256 ∧ (jn (wj_Md_pick_97 x5_1 fresh_1 (wl_Md_pick_52 a2 a3 m_label_1 Kx_1 n)) (fun K_1 : Int32 → Prop => ((m_label_1 x5_1.toNatClampNeg) = (m_label_1 ((16 * a3) + a2).toNatClampNeg) → (K_1 1)) ∧ (¬ (m_label_1 x5_1.toNatClampNeg) = (m_label_1 ((16 * a3) + a2).toNatClampNeg) → (K_1 0)))))))
def wp_Md_pick (rows : IA) (fresh : IA) (oldMask : IA) (oldRows : IA) (known : Int32) (label : IA) (pile : IA) (parts : Int32) (a1 : Int32) (a2 : Int32) (a3 : Int32) (a4 : Int32) (Q : Int32 → IA → IA → IA → IA → Int32 → IA → IA → Int32 → Prop) : Prop :=
  wp_Md_isMask a1 (fun r_1 => (r_1 = 0 → (Q (-2) rows fresh oldMask oldRows known label pile parts)) ∧ (¬ r_1 = 0 → (wp_Md_isCell a2 a3 (fun r_2 => (r_2 = 0 → (Q (-2) rows fresh oldMask oldRows known label pile parts)) ∧ (¬ r_2 = 0 → (wp_Md_isMask a4 (fun r_3 => (r_3 = 0 → (Q (-2) rows fresh oldMask oldRows known label pile parts)) ∧ (¬ r_3 = 0 → (wp_Md_dark rows a1 a2 a3 (fun r_4 => (r_4 = 0 → (Q (-3) rows fresh oldMask oldRows known label pile parts)) ∧ (¬ r_4 = 0 → (wp_Md_labels rows label pile a1 1 (fun m_label_1 m_pile_1 m_parts_1 => wp_Md_clears fresh (fun m_fresh_1 => ∃ k_1 : Nat, wl_Md_pick_52 a2 a3 m_label_1 (wx_Md_pick_106 rows oldMask oldRows known a4 Q m_label_1 m_pile_1 m_parts_1) k_1 0 m_fresh_1))))))))))))))
set_option maxHeartbeats 4000000 in
theorem c_Md_pick (l : Launch) (G : GG) (ad : Nat → Nat) (forms : IA) (sizes : IA) (items : IA) (moved : IA) (latest : Int32) (rows : IA) (fresh : IA) (oldMask : IA) (oldRows : IA) (known : Int32) (drawn : Int32) (label : IA) (pile : IA) (parts : Int32) (waitX : IA) (waitY : IA) (waitSide : IA) (waits : Int32) (sign : IA) (signs : Int32) (many : IA) (a1 : Int32) (a2 : Int32) (a3 : Int32) (a4 : Int32) {Q : Int32 → IA → IA → IA → IA → Int32 → IA → IA → Int32 → Prop} (h : wp_Md_pick rows fresh oldMask oldRows known label pile parts a1 a2 a3 a4 Q) : qm_MI l yX6_pick wsX6_pick rmX6_pick G [.ref (ad 0), .int a1, .int a2, .int a3, .int a4] (mw G ad forms sizes items moved latest rows fresh oldMask oldRows known drawn label pile parts waitX waitY waitSide waits sign signs many) (fun (r : Int32) (u : IA × IA × IA × IA × Int32 × IA × IA × Int32) => Q r u.1 u.2.1 u.2.2.1 u.2.2.2.1 u.2.2.2.2.1 u.2.2.2.2.2.1 u.2.2.2.2.2.2.1 u.2.2.2.2.2.2.2) (fun (u : IA × IA × IA × IA × Int32 × IA × IA × Int32) => mw G ad forms sizes items moved latest u.1 u.2.1 u.2.2.1 u.2.2.2.1 u.2.2.2.2.1 drawn u.2.2.2.2.2.1 u.2.2.2.2.2.2.1 u.2.2.2.2.2.2.2 waitX waitY waitSide waits sign signs many) := by
  refine qm_mkI (cc := cX6_pick) (maxL := 6) (by decide) rfl (Nat.le_of_ble_eq_true rfl) ?_
  intro X C hret
  replace C : qm_C G 6 X cX6_pick wsX6_pick RX6 := C
  refine v_lv (lv' := [(0, .ref (ad 0)), (1, .int a1), (2, .int a2), (3, .int a3), (4, .int a4)]) rfl ?_
  unfold wp_Md_pick at h
  refine v_iload_n C dX6_pick_0 rfl 1 rfl ?_
  refine v_callSi C (c_Md_isMask l G (mw G ad forms sizes items moved latest rows fresh oldMask oldRows known drawn label pile parts waitX waitY waitSide waits sign signs many) a1 h) gX6_pick_X6_isMask rfl kX6_isMask ⟨rfl, rfl⟩ ⟨Nat.le_of_ble_eq_true rfl, Nat.le_of_ble_eq_true rfl⟩ rfl (Nat.le_of_ble_eq_true rfl) dX6_pick_1 (fun r_1 _ h => ?_)
  try dsimp only at h
  refine v_if_eq C 23 dX6_pick_4 (by decide) (fun c_6 => ?_) (fun c_6 => ?_)
  · replace h := h.1 c_6
    refine v_bipush C (-2) dX6_pick_23 (by decide) ?_
    exact hret _ _ _ (-2) (rows, fresh, oldMask, oldRows, known, label, pile, parts) h rfl dX6_pick_25
  · replace h := h.2 c_6
    refine v_iload_n C dX6_pick_7 rfl 2 rfl ?_
    refine v_iload_n C dX6_pick_8 rfl 3 rfl ?_
    refine v_callSi C (c_Md_isCell l G (mw G ad forms sizes items moved latest rows fresh oldMask oldRows known drawn label pile parts waitX waitY waitSide waits sign signs many) a2 a3 h) gX6_pick_X6_isCell rfl kX6_isCell ⟨rfl, rfl⟩ ⟨Nat.le_of_ble_eq_true rfl, Nat.le_of_ble_eq_true rfl⟩ rfl (Nat.le_of_ble_eq_true rfl) dX6_pick_9 (fun r_2 _ h => ?_)
    try dsimp only at h
    refine v_if_eq C 23 dX6_pick_12 (by decide) (fun c_5 => ?_) (fun c_5 => ?_)
    · replace h := h.1 c_5
      refine v_bipush C (-2) dX6_pick_23 (by decide) ?_
      exact hret _ _ _ (-2) (rows, fresh, oldMask, oldRows, known, label, pile, parts) h rfl dX6_pick_25
    · replace h := h.2 c_5
      refine v_iload C dX6_pick_15 4 rfl ?_
      refine v_callSi C (c_Md_isMask l G (mw G ad forms sizes items moved latest rows fresh oldMask oldRows known drawn label pile parts waitX waitY waitSide waits sign signs many) a4 h) gX6_pick_X6_isMask rfl kX6_isMask ⟨rfl, rfl⟩ ⟨Nat.le_of_ble_eq_true rfl, Nat.le_of_ble_eq_true rfl⟩ rfl (Nat.le_of_ble_eq_true rfl) dX6_pick_17 (fun r_3 _ h => ?_)
      try dsimp only at h
      refine v_if_ne C 26 dX6_pick_20 (by decide) (fun c_4 => ?_) (fun c_4 => ?_)
      · replace h := h.2 c_4
        refine v_aload_n C dX6_pick_26 rfl 0 rfl ?_
        refine v_iload_n C dX6_pick_27 rfl 1 rfl ?_
        refine v_iload_n C dX6_pick_28 rfl 2 rfl ?_
        refine v_iload_n C dX6_pick_29 rfl 3 rfl ?_
        refine v_callVi C (c_Md_dark l G ad forms sizes items moved latest rows fresh oldMask oldRows known drawn label pile parts waitX waitY waitSide waits sign signs many a1 a2 a3 h) 0 rfl rfl gX6_pick_X6_dark rfl kX6_dark ⟨rfl, rfl⟩ ⟨Nat.le_of_ble_eq_true rfl, Nat.le_of_ble_eq_true rfl⟩ rfl (Nat.le_of_ble_eq_true rfl) dX6_pick_30 (fun r_4 _ h => ?_)
        try dsimp only at h
        refine v_if_ne C 39 dX6_pick_33 (by decide) (fun c_3 => ?_) (fun c_3 => ?_)
        · replace h := h.2 c_3
          refine v_aload_n C dX6_pick_39 rfl 0 rfl ?_
          refine v_iload_n C dX6_pick_40 rfl 1 rfl ?_
          refine v_iconst C 1 dX6_pick_41 (by decide) ?_
          refine v_callVv C (c_Md_labels l G ad forms sizes items moved latest rows fresh oldMask oldRows known drawn label pile parts waitX waitY waitSide waits sign signs many a1 1 h) 0 rfl rfl gX6_pick_X6_labels rfl kX6_labels ⟨rfl, rfl⟩ ⟨Nat.le_of_ble_eq_true rfl, Nat.le_of_ble_eq_true rfl⟩ rfl (Nat.le_of_ble_eq_true rfl) dX6_pick_42 (fun u h => ?_)
          obtain ⟨m_label_1, m_pile_1, m_parts_1⟩ := u
          try dsimp only at h
          refine v_world (ws' := mw G ad forms sizes items moved latest rows fresh oldMask oldRows known drawn m_label_1 m_pile_1 m_parts_1 waitX waitY waitSide waits sign signs many) rfl ?_
          refine v_aload_n C dX6_pick_45 rfl 0 rfl ?_
          refine v_callVv C (c_Md_clears l G ad forms sizes items moved latest rows fresh oldMask oldRows known drawn m_label_1 m_pile_1 m_parts_1 waitX waitY waitSide waits sign signs many h) 0 rfl rfl gX6_pick_X6_clears rfl kX6_clears ⟨rfl, rfl⟩ ⟨Nat.le_of_ble_eq_true rfl, Nat.le_of_ble_eq_true rfl⟩ rfl (Nat.le_of_ble_eq_true rfl) dX6_pick_46 (fun m_fresh_1 h => ?_)
          try dsimp only at h
          refine v_world (ws' := mw G ad forms sizes items moved latest rows m_fresh_1 oldMask oldRows known drawn m_label_1 m_pile_1 m_parts_1 waitX waitY waitSide waits sign signs many) rfl ?_
          refine v_iconst C 0 dX6_pick_49 (by decide) ?_
          refine v_istore C [(5, .int 0), (0, .ref (ad 0)), (1, .int a1), (2, .int a2), (3, .int a3), (4, .int a4)] dX6_pick_50 (by decide) rfl ?_
          have hx_1 : ∀ (x5_2 : Int32) (fresh_2 : IA), (wx_Md_pick_106 rows oldMask oldRows known a4 Q m_label_1 m_pile_1 m_parts_1) x5_2 fresh_2 → qm_V l G rmX6_pick 6 X (mw G ad forms sizes items moved latest rows fresh_2 oldMask oldRows known drawn m_label_1 m_pile_1 m_parts_1 waitX waitY waitSide waits sign signs many) [(5, .int x5_2), (0, .ref (ad 0)), (1, .int a1), (2, .int a2), (3, .int a3), (4, .int a4)] 106 [] := by
            intro x5_2 fresh_2 h
            unfold wx_Md_pick_106 at h
            refine v_aload_n C dX6_pick_106 rfl 1 rfl ?_
            refine v_iload C dX6_pick_107 5 rfl ?_
            refine v_callVi C (c_Md_become l G ad forms sizes items moved latest rows fresh_2 oldMask oldRows known drawn m_label_1 m_pile_1 m_parts_1 waitX waitY waitSide waits sign signs many a4 h) 0 rfl rfl gX6_pick_X6_become rfl kX6_become ⟨rfl, rfl⟩ ⟨Nat.le_of_ble_eq_true rfl, Nat.le_of_ble_eq_true rfl⟩ rfl (Nat.le_of_ble_eq_true rfl) dX6_pick_109 (fun r_5 u h => ?_)
            obtain ⟨m_rows_1, m_oldMask_1, m_oldRows_1, m_known_1⟩ := u
            try dsimp only at h
            refine v_world (ws' := mw G ad forms sizes items moved latest m_rows_1 fresh_2 m_oldMask_1 m_oldRows_1 m_known_1 drawn m_label_1 m_pile_1 m_parts_1 waitX waitY waitSide waits sign signs many) rfl ?_
            exact hret _ _ _ r_5 (m_rows_1, fresh_2, m_oldMask_1, m_oldRows_1, m_known_1, m_label_1, m_pile_1, m_parts_1) h rfl dX6_pick_112
          have hl_1 : ∀ n_1 : Nat, ∀ (x5_1 : Int32) (fresh_1 : IA), wl_Md_pick_52 a2 a3 m_label_1 (wx_Md_pick_106 rows oldMask oldRows known a4 Q m_label_1 m_pile_1 m_parts_1) n_1 x5_1 fresh_1 → qm_V l G rmX6_pick 6 X (mw G ad forms sizes items moved latest rows fresh_1 oldMask oldRows known drawn m_label_1 m_pile_1 m_parts_1 waitX waitY waitSide waits sign signs many) [(5, .int x5_1), (0, .ref (ad 0)), (1, .int a1), (2, .int a2), (3, .int a3), (4, .int a4)] 52 [] := by
            intro n_1
            induction n_1 with
            | zero =>
              intro x5_1 fresh_1 h
              exact False.elim h
            | succ n_1 ih_1 =>
              intro x5_1 fresh_1 h
              rw [wl_Md_pick_52] at h
              refine v_iload C dX6_pick_52 0 rfl ?_
              refine v_sipush C 256 dX6_pick_54 (by decide) ?_
              refine v_icmp_ge C 106 dX6_pick_57 (by decide) (fun c_2 => ?_) (fun c_2 => ?_)
              · replace h := h.1 c_2
                exact hx_1 x5_1 fresh_1 h
              · replace h := h.2 c_2
                refine v_aload_n C dX6_pick_60 rfl 1 rfl ?_
                refine v_iload C dX6_pick_61 0 rfl ?_
                refine v_bipush C 16 dX6_pick_63 (by decide) ?_
                refine v_irem C dX6_pick_65 (by decide) ?_
                refine v_iload C dX6_pick_66 0 rfl ?_
                refine v_bipush C 16 dX6_pick_68 (by decide) ?_
                refine v_idiv C dX6_pick_70 (by decide) ?_
                refine v_aload_n C dX6_pick_71 rfl 1 rfl ?_
                refine v_get C iX6_pick_6 0 rfl rfl 11 (by decide) mX6_pick_w1 rfl rfl dX6_pick_72 ?_
                refine v_iload C dX6_pick_75 0 rfl ?_
                obtain ⟨hin_1, h⟩ := h
                refine v_iald C 9 rfl hin_1 dX6_pick_77 ?_
                refine v_aload_n C dX6_pick_78 rfl 1 rfl ?_
                refine v_get C iX6_pick_6 0 rfl rfl 11 (by decide) mX6_pick_w1 rfl rfl dX6_pick_79 ?_
                refine v_bipush C 16 dX6_pick_82 (by decide) ?_
                refine v_iload_n C dX6_pick_84 rfl 4 rfl ?_
                refine v_imul C dX6_pick_85 ?_
                refine v_iload_n C dX6_pick_86 rfl 3 rfl ?_
                refine v_iadd C dX6_pick_87 ?_
                obtain ⟨hin_2, h⟩ := h
                refine v_iald C 9 rfl hin_2 dX6_pick_88 ?_
                have hJ_1 : ∀ (t_1 : Int32), (wj_Md_pick_97 x5_1 fresh_1 (wl_Md_pick_52 a2 a3 m_label_1 (wx_Md_pick_106 rows oldMask oldRows known a4 Q m_label_1 m_pile_1 m_parts_1) n_1)) t_1 → qm_V l G rmX6_pick 6 X (mw G ad forms sizes items moved latest rows fresh_1 oldMask oldRows known drawn m_label_1 m_pile_1 m_parts_1 waitX waitY waitSide waits sign signs many) [(5, .int x5_1), (0, .ref (ad 0)), (1, .int a1), (2, .int a2), (3, .int a3), (4, .int a4)] 97 [.int t_1, .int (x5_1 / 16), .int (jrem x5_1 16), .ref (ad 0)] := by
                  intro t_1 h
                  unfold wj_Md_pick_97 at h
                  refine v_callVv C (c_Md_sets l G ad forms sizes items moved latest rows fresh_1 oldMask oldRows known drawn m_label_1 m_pile_1 m_parts_1 waitX waitY waitSide waits sign signs many (jrem x5_1 16) (x5_1 / 16) t_1 h) 0 rfl rfl gX6_pick_X6_sets rfl kX6_sets ⟨rfl, rfl⟩ ⟨Nat.le_of_ble_eq_true rfl, Nat.le_of_ble_eq_true rfl⟩ rfl (Nat.le_of_ble_eq_true rfl) dX6_pick_97 (fun m_fresh_2 h => ?_)
                  try dsimp only at h
                  refine v_world (ws' := mw G ad forms sizes items moved latest rows m_fresh_2 oldMask oldRows known drawn m_label_1 m_pile_1 m_parts_1 waitX waitY waitSide waits sign signs many) rfl ?_
                  refine v_iinc C (x5_1 + 1) 0 [(5, .int (x5_1 + 1)), (0, .ref (ad 0)), (1, .int a1), (2, .int a2), (3, .int a3), (4, .int a4)] dX6_pick_100 rfl rfl (by decide) rfl ?_
                  refine v_goto C 52 dX6_pick_103 (by decide) ?_
                  exact ih_1 (x5_1 + 1) m_fresh_2 h
                replace h := jn_use h
                try dsimp only at h
                refine v_icmp_ne C 96 dX6_pick_89 (by decide) (fun c_1 => ?_) (fun c_1 => ?_)
                · replace h := h.2 c_1
                  refine v_iconst C 0 dX6_pick_96 (by decide) ?_
                  exact hJ_1 0 h
                · replace h := h.1 c_1
                  refine v_iconst C 1 dX6_pick_92 (by decide) ?_
                  refine v_goto C 97 dX6_pick_93 (by decide) ?_
                  exact hJ_1 1 h
          obtain ⟨k_1, h⟩ := h
          exact hl_1 k_1 0 m_fresh_1 h
        · replace h := h.1 c_3
          refine v_bipush C (-3) dX6_pick_36 (by decide) ?_
          exact hret _ _ _ (-3) (rows, fresh, oldMask, oldRows, known, label, pile, parts) h rfl dX6_pick_38
      · replace h := h.1 c_4
        refine v_bipush C (-2) dX6_pick_23 (by decide) ?_
        exact hret _ _ _ (-2) (rows, fresh, oldMask, oldRows, known, label, pile, parts) h rfl dX6_pick_25
-- QuarterMasksModel.later
def rmX6_later : Room := { frames := 1, cells := 0, slots := 0, locals := 40 }
theorem kX6_later : yX6_later.cls = RX6 ∧ yX6_later.cls ≠ "java/lang/invoke/MethodHandle" ∧ yX6_later.cls ≠ "java/lang/invoke/VarHandle" ∧ (parseMethodDescriptor yX6_later.desc).map (fun d => d.parameters.length) = some 3 := by decide +kernel
theorem mX6_later_w1 : Cond.fieldLink RX6 40 "QuarterMasksModel" "waitX" "[I" ∈ wsX6_later := List.mem_of_getElem? (i := 1) rfl
theorem iX6_later_6 : ∀ w ∈ wsX60, w ∈ wsX6_later := fun w h => List.mem_cons_of_mem _ (List.mem_append_right _ h)
theorem mX6_later_w2 : Cond.fieldLink RX6 154 "QuarterMasksModel" "waits" "I" ∈ wsX6_later := List.mem_of_getElem? (i := 2) rfl
theorem mX6_later_w3 : Cond.fieldLink RX6 43 "QuarterMasksModel" "waitY" "[I" ∈ wsX6_later := List.mem_of_getElem? (i := 3) rfl
theorem mX6_later_w4 : Cond.fieldLink RX6 46 "QuarterMasksModel" "waitSide" "[I" ∈ wsX6_later := List.mem_of_getElem? (i := 4) rfl
def wp_Md_later (waitX : IA) (waitY : IA) (waitSide : IA) (waits : Int32) (a1 : Int32) (a2 : Int32) (a3 : Int32) (Q : IA → IA → IA → Int32 → Prop) : Prop :=
  vp_in waits 16 ∧ (∀ f_waitX_1 : IA, f_waitX_1 = upd waitX waits.toNatClampNeg a1 → (vp_in waits 16 ∧ (∀ f_waitY_1 : IA, f_waitY_1 = upd waitY waits.toNatClampNeg a2 → (vp_in waits 16 ∧ (∀ f_waitSide_1 : IA, f_waitSide_1 = upd waitSide waits.toNatClampNeg a3 → (∀ v_waits_1 : Int32, v_waits_1 = (waits + 1) → (Q f_waitX_1 f_waitY_1 f_waitSide_1 v_waits_1)))))))
set_option maxHeartbeats 4000000 in
theorem c_Md_later (l : Launch) (G : GG) (ad : Nat → Nat) (forms : IA) (sizes : IA) (items : IA) (moved : IA) (latest : Int32) (rows : IA) (fresh : IA) (oldMask : IA) (oldRows : IA) (known : Int32) (drawn : Int32) (label : IA) (pile : IA) (parts : Int32) (waitX : IA) (waitY : IA) (waitSide : IA) (waits : Int32) (sign : IA) (signs : Int32) (many : IA) (a1 : Int32) (a2 : Int32) (a3 : Int32) {Q : IA → IA → IA → Int32 → Prop} (h : wp_Md_later waitX waitY waitSide waits a1 a2 a3 Q) : qm_MV l yX6_later wsX6_later rmX6_later G [.ref (ad 0), .int a1, .int a2, .int a3] (mw G ad forms sizes items moved latest rows fresh oldMask oldRows known drawn label pile parts waitX waitY waitSide waits sign signs many) (fun (u : IA × IA × IA × Int32) => Q u.1 u.2.1 u.2.2.1 u.2.2.2) (fun (u : IA × IA × IA × Int32) => mw G ad forms sizes items moved latest rows fresh oldMask oldRows known drawn label pile parts u.1 u.2.1 u.2.2.1 u.2.2.2 sign signs many) := by
  refine qm_mkV (cc := cX6_later) (maxL := 4) (by decide) rfl (Nat.le_of_ble_eq_true rfl) ?_
  intro X C hret
  replace C : qm_C G 4 X cX6_later wsX6_later RX6 := C
  refine v_lv (lv' := [(0, .ref (ad 0)), (1, .int a1), (2, .int a2), (3, .int a3)]) rfl ?_
  unfold wp_Md_later at h
  refine v_aload_n C dX6_later_0 rfl 0 rfl ?_
  refine v_get C iX6_later_6 0 rfl rfl 14 (by decide) mX6_later_w1 rfl rfl dX6_later_1 ?_
  refine v_aload_n C dX6_later_4 rfl 0 rfl ?_
  refine v_get C iX6_later_6 0 rfl rfl 17 (by decide) mX6_later_w2 rfl rfl dX6_later_5 ?_
  refine v_iload_n C dX6_later_8 rfl 1 rfl ?_
  obtain ⟨hin_1, h⟩ := h
  obtain ⟨f_waitX_1, ef_waitX_1⟩ : ∃ y : IA, y = upd waitX waits.toNatClampNeg a1 := ⟨_, rfl⟩
  replace h := h f_waitX_1 ef_waitX_1
  refine v_iast C 11 rfl (ws' := mw G ad forms sizes items moved latest rows fresh oldMask oldRows known drawn label pile parts f_waitX_1 waitY waitSide waits sign signs many) (by subst ef_waitX_1; exact rfl) hin_1 dX6_later_9 ?_
  refine v_aload_n C dX6_later_10 rfl 0 rfl ?_
  refine v_get C iX6_later_6 0 rfl rfl 15 (by decide) mX6_later_w3 rfl rfl dX6_later_11 ?_
  refine v_aload_n C dX6_later_14 rfl 0 rfl ?_
  refine v_get C iX6_later_6 0 rfl rfl 17 (by decide) mX6_later_w2 rfl rfl dX6_later_15 ?_
  refine v_iload_n C dX6_later_18 rfl 2 rfl ?_
  obtain ⟨hin_2, h⟩ := h
  obtain ⟨f_waitY_1, ef_waitY_1⟩ : ∃ y : IA, y = upd waitY waits.toNatClampNeg a2 := ⟨_, rfl⟩
  replace h := h f_waitY_1 ef_waitY_1
  refine v_iast C 12 rfl (ws' := mw G ad forms sizes items moved latest rows fresh oldMask oldRows known drawn label pile parts f_waitX_1 f_waitY_1 waitSide waits sign signs many) (by subst ef_waitY_1; exact rfl) hin_2 dX6_later_19 ?_
  refine v_aload_n C dX6_later_20 rfl 0 rfl ?_
  refine v_get C iX6_later_6 0 rfl rfl 16 (by decide) mX6_later_w4 rfl rfl dX6_later_21 ?_
  refine v_aload_n C dX6_later_24 rfl 0 rfl ?_
  refine v_get C iX6_later_6 0 rfl rfl 17 (by decide) mX6_later_w2 rfl rfl dX6_later_25 ?_
  refine v_iload_n C dX6_later_28 rfl 3 rfl ?_
  obtain ⟨hin_3, h⟩ := h
  obtain ⟨f_waitSide_1, ef_waitSide_1⟩ : ∃ y : IA, y = upd waitSide waits.toNatClampNeg a3 := ⟨_, rfl⟩
  replace h := h f_waitSide_1 ef_waitSide_1
  refine v_iast C 13 rfl (ws' := mw G ad forms sizes items moved latest rows fresh oldMask oldRows known drawn label pile parts f_waitX_1 f_waitY_1 f_waitSide_1 waits sign signs many) (by subst ef_waitSide_1; exact rfl) hin_3 dX6_later_29 ?_
  refine v_aload_n C dX6_later_30 rfl 0 rfl ?_
  refine v_dup C dX6_later_31 rfl ?_
  refine v_get C iX6_later_6 0 rfl rfl 17 (by decide) mX6_later_w2 rfl rfl dX6_later_32 ?_
  refine v_iconst C 1 dX6_later_35 (by decide) ?_
  refine v_iadd C dX6_later_36 ?_
  refine v_topi (fun v_waits_1 ev_waits_1 => ?_)
  replace h := h v_waits_1 ev_waits_1
  refine v_put C iX6_later_6 tyX6_ok nmX6 0 rfl rfl 17 (by decide) mX6_later_w2 rfl rfl rfl rfl rfl (Nat.le_of_ble_eq_true rfl) (ws' := mw G ad forms sizes items moved latest rows fresh oldMask oldRows known drawn label pile parts f_waitX_1 f_waitY_1 f_waitSide_1 v_waits_1 sign signs many) rfl dX6_later_37 ?_
  exact hret _ _ _ (f_waitX_1, f_waitY_1, f_waitSide_1, v_waits_1) h rfl dX6_later_40
-- QuarterMasksModel.quarters
def rmX6_quarters : Room := { frames := 2, cells := 0, slots := 0, locals := 63 }
theorem kX6_quarters : yX6_quarters.cls = RX6 ∧ yX6_quarters.cls ≠ "java/lang/invoke/MethodHandle" ∧ yX6_quarters.cls ≠ "java/lang/invoke/VarHandle" ∧ (parseMethodDescriptor yX6_quarters.desc).map (fun d => d.parameters.length) = some 3 := by decide +kernel
def wp_Md_quarters (waitX : IA) (waitY : IA) (waitSide : IA) (waits : Int32) (a1 : Int32) (a2 : Int32) (a3 : Int32) (Q : IA → IA → IA → Int32 → Prop) : Prop :=
  ∀ x4_1 : Int32, x4_1 = (a3 / 2) → (wp_Md_later waitX waitY waitSide waits (a1 + x4_1) (a2 + x4_1) x4_1 (fun m_waitX_1 m_waitY_1 m_waitSide_1 m_waits_1 => wp_Md_later m_waitX_1 m_waitY_1 m_waitSide_1 m_waits_1 a1 (a2 + x4_1) x4_1 (fun m_waitX_2 m_waitY_2 m_waitSide_2 m_waits_2 => wp_Md_later m_waitX_2 m_waitY_2 m_waitSide_2 m_waits_2 (a1 + x4_1) a2 x4_1 (fun m_waitX_3 m_waitY_3 m_waitSide_3 m_waits_3 => wp_Md_later m_waitX_3 m_waitY_3 m_waitSide_3 m_waits_3 a1 a2 x4_1 (fun m_waitX_4 m_waitY_4 m_waitSide_4 m_waits_4 => Q m_waitX_4 m_waitY_4 m_waitSide_4 m_waits_4)))))
set_option maxHeartbeats 4000000 in
theorem c_Md_quarters (l : Launch) (G : GG) (ad : Nat → Nat) (forms : IA) (sizes : IA) (items : IA) (moved : IA) (latest : Int32) (rows : IA) (fresh : IA) (oldMask : IA) (oldRows : IA) (known : Int32) (drawn : Int32) (label : IA) (pile : IA) (parts : Int32) (waitX : IA) (waitY : IA) (waitSide : IA) (waits : Int32) (sign : IA) (signs : Int32) (many : IA) (a1 : Int32) (a2 : Int32) (a3 : Int32) {Q : IA → IA → IA → Int32 → Prop} (h : wp_Md_quarters waitX waitY waitSide waits a1 a2 a3 Q) : qm_MV l yX6_quarters wsX6_quarters rmX6_quarters G [.ref (ad 0), .int a1, .int a2, .int a3] (mw G ad forms sizes items moved latest rows fresh oldMask oldRows known drawn label pile parts waitX waitY waitSide waits sign signs many) (fun (u : IA × IA × IA × Int32) => Q u.1 u.2.1 u.2.2.1 u.2.2.2) (fun (u : IA × IA × IA × Int32) => mw G ad forms sizes items moved latest rows fresh oldMask oldRows known drawn label pile parts u.1 u.2.1 u.2.2.1 u.2.2.2 sign signs many) := by
  refine qm_mkV (cc := cX6_quarters) (maxL := 5) (by decide) rfl (Nat.le_of_ble_eq_true rfl) ?_
  intro X C hret
  replace C : qm_C G 5 X cX6_quarters wsX6_quarters RX6 := C
  refine v_lv (lv' := [(0, .ref (ad 0)), (1, .int a1), (2, .int a2), (3, .int a3)]) rfl ?_
  unfold wp_Md_quarters at h
  refine v_iload_n C dX6_quarters_0 rfl 3 rfl ?_
  refine v_iconst C 2 dX6_quarters_1 (by decide) ?_
  refine v_idiv C dX6_quarters_2 (by decide) ?_
  refine v_topi (fun x4_1 ex4_1 => ?_)
  replace h := h x4_1 ex4_1
  refine v_istore C [(4, .int x4_1), (0, .ref (ad 0)), (1, .int a1), (2, .int a2), (3, .int a3)] dX6_quarters_3 (by decide) rfl ?_
  refine v_aload_n C dX6_quarters_5 rfl 1 rfl ?_
  refine v_iload_n C dX6_quarters_6 rfl 2 rfl ?_
  refine v_iload C dX6_quarters_7 0 rfl ?_
  refine v_iadd C dX6_quarters_9 ?_
  refine v_iload_n C dX6_quarters_10 rfl 3 rfl ?_
  refine v_iload C dX6_quarters_11 0 rfl ?_
  refine v_iadd C dX6_quarters_13 ?_
  refine v_iload C dX6_quarters_14 0 rfl ?_
  refine v_callVv C (c_Md_later l G ad forms sizes items moved latest rows fresh oldMask oldRows known drawn label pile parts waitX waitY waitSide waits sign signs many (a1 + x4_1) (a2 + x4_1) x4_1 h) 0 rfl rfl gX6_quarters_X6_later rfl kX6_later ⟨rfl, rfl⟩ ⟨Nat.le_of_ble_eq_true rfl, Nat.le_of_ble_eq_true rfl⟩ rfl (Nat.le_of_ble_eq_true rfl) dX6_quarters_16 (fun u h => ?_)
  obtain ⟨m_waitX_1, m_waitY_1, m_waitSide_1, m_waits_1⟩ := u
  try dsimp only at h
  refine v_world (ws' := mw G ad forms sizes items moved latest rows fresh oldMask oldRows known drawn label pile parts m_waitX_1 m_waitY_1 m_waitSide_1 m_waits_1 sign signs many) rfl ?_
  refine v_aload_n C dX6_quarters_19 rfl 1 rfl ?_
  refine v_iload_n C dX6_quarters_20 rfl 2 rfl ?_
  refine v_iload_n C dX6_quarters_21 rfl 3 rfl ?_
  refine v_iload C dX6_quarters_22 0 rfl ?_
  refine v_iadd C dX6_quarters_24 ?_
  refine v_iload C dX6_quarters_25 0 rfl ?_
  refine v_callVv C (c_Md_later l G ad forms sizes items moved latest rows fresh oldMask oldRows known drawn label pile parts m_waitX_1 m_waitY_1 m_waitSide_1 m_waits_1 sign signs many a1 (a2 + x4_1) x4_1 h) 0 rfl rfl gX6_quarters_X6_later rfl kX6_later ⟨rfl, rfl⟩ ⟨Nat.le_of_ble_eq_true rfl, Nat.le_of_ble_eq_true rfl⟩ rfl (Nat.le_of_ble_eq_true rfl) dX6_quarters_27 (fun u h => ?_)
  obtain ⟨m_waitX_2, m_waitY_2, m_waitSide_2, m_waits_2⟩ := u
  try dsimp only at h
  refine v_world (ws' := mw G ad forms sizes items moved latest rows fresh oldMask oldRows known drawn label pile parts m_waitX_2 m_waitY_2 m_waitSide_2 m_waits_2 sign signs many) rfl ?_
  refine v_aload_n C dX6_quarters_30 rfl 1 rfl ?_
  refine v_iload_n C dX6_quarters_31 rfl 2 rfl ?_
  refine v_iload C dX6_quarters_32 0 rfl ?_
  refine v_iadd C dX6_quarters_34 ?_
  refine v_iload_n C dX6_quarters_35 rfl 3 rfl ?_
  refine v_iload C dX6_quarters_36 0 rfl ?_
  refine v_callVv C (c_Md_later l G ad forms sizes items moved latest rows fresh oldMask oldRows known drawn label pile parts m_waitX_2 m_waitY_2 m_waitSide_2 m_waits_2 sign signs many (a1 + x4_1) a2 x4_1 h) 0 rfl rfl gX6_quarters_X6_later rfl kX6_later ⟨rfl, rfl⟩ ⟨Nat.le_of_ble_eq_true rfl, Nat.le_of_ble_eq_true rfl⟩ rfl (Nat.le_of_ble_eq_true rfl) dX6_quarters_38 (fun u h => ?_)
  obtain ⟨m_waitX_3, m_waitY_3, m_waitSide_3, m_waits_3⟩ := u
  try dsimp only at h
  refine v_world (ws' := mw G ad forms sizes items moved latest rows fresh oldMask oldRows known drawn label pile parts m_waitX_3 m_waitY_3 m_waitSide_3 m_waits_3 sign signs many) rfl ?_
  refine v_aload_n C dX6_quarters_41 rfl 1 rfl ?_
  refine v_iload_n C dX6_quarters_42 rfl 2 rfl ?_
  refine v_iload_n C dX6_quarters_43 rfl 3 rfl ?_
  refine v_iload C dX6_quarters_44 0 rfl ?_
  refine v_callVv C (c_Md_later l G ad forms sizes items moved latest rows fresh oldMask oldRows known drawn label pile parts m_waitX_3 m_waitY_3 m_waitSide_3 m_waits_3 sign signs many a1 a2 x4_1 h) 0 rfl rfl gX6_quarters_X6_later rfl kX6_later ⟨rfl, rfl⟩ ⟨Nat.le_of_ble_eq_true rfl, Nat.le_of_ble_eq_true rfl⟩ rfl (Nat.le_of_ble_eq_true rfl) dX6_quarters_46 (fun u h => ?_)
  obtain ⟨m_waitX_4, m_waitY_4, m_waitSide_4, m_waits_4⟩ := u
  try dsimp only at h
  refine v_world (ws' := mw G ad forms sizes items moved latest rows fresh oldMask oldRows known drawn label pile parts m_waitX_4 m_waitY_4 m_waitSide_4 m_waits_4 sign signs many) rfl ?_
  exact hret _ _ _ (m_waitX_4, m_waitY_4, m_waitSide_4, m_waits_4) h rfl dX6_quarters_49
-- QuarterMasksModel.takes
def rmX6_takes : Room := { frames := 3, cells := 0, slots := 0, locals := 87 }
theorem kX6_takes : yX6_takes.cls = RX6 ∧ yX6_takes.cls ≠ "java/lang/invoke/MethodHandle" ∧ yX6_takes.cls ≠ "java/lang/invoke/VarHandle" ∧ (parseMethodDescriptor yX6_takes.desc).map (fun d => d.parameters.length) = some 1 := by decide +kernel
theorem mX6_takes_w1 : Cond.fieldLink RX6 154 "QuarterMasksModel" "waits" "I" ∈ wsX6_takes := List.mem_of_getElem? (i := 1) rfl
theorem iX6_takes_6 : ∀ w ∈ wsX60, w ∈ wsX6_takes := fun w h => List.mem_cons_of_mem _ (List.mem_append_right _ h)
theorem mX6_takes_w2 : Cond.fieldLink RX6 40 "QuarterMasksModel" "waitX" "[I" ∈ wsX6_takes := List.mem_of_getElem? (i := 2) rfl
theorem mX6_takes_w3 : Cond.fieldLink RX6 43 "QuarterMasksModel" "waitY" "[I" ∈ wsX6_takes := List.mem_of_getElem? (i := 3) rfl
theorem mX6_takes_w4 : Cond.fieldLink RX6 46 "QuarterMasksModel" "waitSide" "[I" ∈ wsX6_takes := List.mem_of_getElem? (i := 4) rfl
theorem mX6_takes_w5 : Cond.fieldLink RX6 13 "QuarterMasksModel" "sizes" "[I" ∈ wsX6_takes := List.mem_of_getElem? (i := 5) rfl
theorem mX6_takes_w6 : Cond.fieldLink RX6 16 "QuarterMasksModel" "items" "[I" ∈ wsX6_takes := List.mem_of_getElem? (i := 6) rfl
theorem mX6_takes_w7 : Cond.constantLong RX6 69 (2) ∈ wsX6_takes := List.mem_of_getElem? (i := 7) rfl
def wl_Md_takes_143 (x3_1 : Int32) (x4_1 : Int32) (x5_1 : Int32) (t_1 : Int32) (Kx_1 : Int32 → IA → Prop) : Nat → Int32 → IA → Prop
  | 0, _, _ => False
  | n + 1, x7_1, fresh_2 => ((x5_1 * x5_1) ≤ x7_1 → (Kx_1 x7_1 fresh_2)) ∧ (¬ (x5_1 * x5_1) ≤ x7_1 → ((2 ≤ t_1 → (Kx_1 x7_1 fresh_2)) ∧ (¬ 2 ≤ t_1 → (¬ x5_1 = 0 ∧ (¬ x5_1 = 0 ∧ (wp_Md_sets fresh_2 (x3_1 + (jrem x7_1 x5_1)) (x4_1 + (x7_1 / x5_1)) t_1 (fun m_fresh_2 => (wl_Md_takes_143 x3_1 x4_1 x5_1 t_1 Kx_1 n) (x7_1 + 1) m_fresh_2)))))))
def wj_Md_takes_140 (x2_1 : Int32) (fresh_1 : IA) (Kh_1 : Int32 → IA → IA → IA → IA → Int32 → Prop) (x3_1 : Int32) (x4_1 : Int32) (x5_1 : Int32) (t_1 : Int32) (waitX_2 : IA) (waitY_2 : IA) (waitSide_2 : IA) (waits_2 : Int32) : Prop :=
  ∃ k_1 : Nat, wl_Md_takes_143 x3_1 x4_1 x5_1 t_1 (fun (x7_2 : Int32) (fresh_3 : IA) => Kh_1 (x2_1 + 1) fresh_3 waitX_2 waitY_2 waitSide_2 waits_2) k_1 0 fresh_1
def wj_Md_takes_122 (x2_1 : Int32) (fresh_1 : IA) (waitX_1 : IA) (waitY_1 : IA) (waitSide_1 : IA) (Kh_1 : Int32 → IA → IA → IA → IA → Int32 → Prop) (v_waits_1 : Int32) (x3_1 : Int32) (x4_1 : Int32) (x5_1 : Int32) (t_1 : Int32) : Prop :=
  jn (wj_Md_takes_140 x2_1 fresh_1 Kh_1 x3_1 x4_1 x5_1 t_1) (fun K_1 : IA → IA → IA → Int32 → Prop => (t_1 = 2 → (wp_Md_quarters waitX_1 waitY_1 waitSide_1 v_waits_1 x3_1 x4_1 x5_1 (fun m_waitX_2 m_waitY_2 m_waitSide_2 m_waits_2 => K_1 m_waitX_2 m_waitY_2 m_waitSide_2 m_waits_2))) ∧ (¬ t_1 = 2 → (K_1 waitX_1 waitY_1 waitSide_1 v_waits_1)))
def wj_Md_takes_93 (Q : Int32 → IA → IA → IA → IA → Int32 → Prop) (x2_1 : Int32) (fresh_1 : IA) (waitX_1 : IA) (waitY_1 : IA) (waitSide_1 : IA) (Kh_1 : Int32 → IA → IA → IA → IA → Int32 → Prop) (v_waits_1 : Int32) (x3_1 : Int32) (x4_1 : Int32) (x5_1 : Int32) (t_1 : Int32) : Prop :=
  wp_Md_in (Int32.toInt64 t_1) 0 2 (fun r_1 => (r_1 = 0 → (Q (-1) fresh_1 waitX_1 waitY_1 waitSide_1 v_waits_1)) ∧ (¬ r_1 = 0 → (jn (wj_Md_takes_122 x2_1 fresh_1 waitX_1 waitY_1 waitSide_1 Kh_1 v_waits_1 x3_1 x4_1 x5_1 t_1) (fun K_2 : Prop => (t_1 = 2 → ((x5_1 = 1 → (Q (-1) fresh_1 waitX_1 waitY_1 waitSide_1 v_waits_1)) ∧ (¬ x5_1 = 1 → (K_2)))) ∧ (¬ t_1 = 2 → (K_2))))))
def wl_Md_takes_19 (sizes : IA) (items : IA) (a1 : Int32) (Q : Int32 → IA → IA → IA → IA → Int32 → Prop) : Nat → Int32 → IA → IA → IA → IA → Int32 → Prop
  | 0, _, _, _, _, _, _ => False
  | n + 1, x2_1, fresh_1, waitX_1, waitY_1, waitSide_1, waits_1 => (waits_1 ≤ 0 → (Q x2_1 fresh_1 waitX_1 waitY_1 waitSide_1 waits_1)) ∧ (¬ waits_1 ≤ 0 → (∀ v_waits_1 : Int32, v_waits_1 = (waits_1 - 1) → (vp_in v_waits_1 16 ∧ (∀ x3_1 : Int32, x3_1 = (waitX_1 v_waits_1.toNatClampNeg) → (vp_in v_waits_1 16 ∧ (∀ x4_1 : Int32, x4_1 = (waitY_1 v_waits_1.toNatClampNeg) → (vp_in v_waits_1 16 ∧ (∀ x5_1 : Int32, x5_1 = (waitSide_1 v_waits_1.toNatClampNeg) → (vp_in a1 4 ∧ (jn (wj_Md_takes_93 Q x2_1 fresh_1 waitX_1 waitY_1 waitSide_1 (wl_Md_takes_19 sizes items a1 Q n) v_waits_1 x3_1 x4_1 x5_1) (fun K_3 : Int32 → Prop => ((sizes a1.toNatClampNeg) ≤ x2_1 → (K_3 (-1))) ∧ (¬ (sizes a1.toNatClampNeg) ≤ x2_1 → (vp_in ((60 * a1) + x2_1) 240 ∧ (K_3 (items ((60 * a1) + x2_1).toNatClampNeg)))))))))))))))
def wp_Md_takes (sizes : IA) (items : IA) (fresh : IA) (waitX : IA) (waitY : IA) (waitSide : IA) (a1 : Int32) (Q : Int32 → IA → IA → IA → IA → Int32 → Prop) : Prop :=
  wp_Md_clears fresh (fun m_fresh_1 => wp_Md_later waitX waitY waitSide 0 0 0 16 (fun m_waitX_1 m_waitY_1 m_waitSide_1 m_waits_1 => ∃ k_2 : Nat, wl_Md_takes_19 sizes items a1 Q k_2 0 m_fresh_1 m_waitX_1 m_waitY_1 m_waitSide_1 m_waits_1))
set_option maxHeartbeats 4000000 in
theorem c_Md_takes (l : Launch) (G : GG) (ad : Nat → Nat) (forms : IA) (sizes : IA) (items : IA) (moved : IA) (latest : Int32) (rows : IA) (fresh : IA) (oldMask : IA) (oldRows : IA) (known : Int32) (drawn : Int32) (label : IA) (pile : IA) (parts : Int32) (waitX : IA) (waitY : IA) (waitSide : IA) (waits : Int32) (sign : IA) (signs : Int32) (many : IA) (a1 : Int32) {Q : Int32 → IA → IA → IA → IA → Int32 → Prop} (h : wp_Md_takes sizes items fresh waitX waitY waitSide a1 Q) : qm_MI l yX6_takes wsX6_takes rmX6_takes G [.ref (ad 0), .int a1] (mw G ad forms sizes items moved latest rows fresh oldMask oldRows known drawn label pile parts waitX waitY waitSide waits sign signs many) (fun (r : Int32) (u : IA × IA × IA × IA × Int32) => Q r u.1 u.2.1 u.2.2.1 u.2.2.2.1 u.2.2.2.2) (fun (u : IA × IA × IA × IA × Int32) => mw G ad forms sizes items moved latest rows u.1 oldMask oldRows known drawn label pile parts u.2.1 u.2.2.1 u.2.2.2.1 u.2.2.2.2 sign signs many) := by
  refine qm_mkI (cc := cX6_takes) (maxL := 8) (by decide) rfl (Nat.le_of_ble_eq_true rfl) ?_
  intro X C hret
  replace C : qm_C G 8 X cX6_takes wsX6_takes RX6 := C
  refine v_lv (lv' := [(0, .ref (ad 0)), (1, .int a1)]) rfl ?_
  unfold wp_Md_takes at h
  refine v_aload_n C dX6_takes_0 rfl 0 rfl ?_
  refine v_callVv C (c_Md_clears l G ad forms sizes items moved latest rows fresh oldMask oldRows known drawn label pile parts waitX waitY waitSide waits sign signs many h) 0 rfl rfl gX6_takes_X6_clears rfl kX6_clears ⟨rfl, rfl⟩ ⟨Nat.le_of_ble_eq_true rfl, Nat.le_of_ble_eq_true rfl⟩ rfl (Nat.le_of_ble_eq_true rfl) dX6_takes_1 (fun m_fresh_1 h => ?_)
  try dsimp only at h
  refine v_world (ws' := mw G ad forms sizes items moved latest rows m_fresh_1 oldMask oldRows known drawn label pile parts waitX waitY waitSide waits sign signs many) rfl ?_
  refine v_aload_n C dX6_takes_4 rfl 0 rfl ?_
  refine v_iconst C 0 dX6_takes_5 (by decide) ?_
  refine v_put C iX6_takes_6 tyX6_ok nmX6 0 rfl rfl 17 (by decide) mX6_takes_w1 rfl rfl rfl rfl rfl (Nat.le_of_ble_eq_true rfl) (ws' := mw G ad forms sizes items moved latest rows m_fresh_1 oldMask oldRows known drawn label pile parts waitX waitY waitSide 0 sign signs many) rfl dX6_takes_6 ?_
  refine v_aload_n C dX6_takes_9 rfl 0 rfl ?_
  refine v_iconst C 0 dX6_takes_10 (by decide) ?_
  refine v_iconst C 0 dX6_takes_11 (by decide) ?_
  refine v_bipush C 16 dX6_takes_12 (by decide) ?_
  refine v_callVv C (c_Md_later l G ad forms sizes items moved latest rows m_fresh_1 oldMask oldRows known drawn label pile parts waitX waitY waitSide 0 sign signs many 0 0 16 h) 0 rfl rfl gX6_takes_X6_later rfl kX6_later ⟨rfl, rfl⟩ ⟨Nat.le_of_ble_eq_true rfl, Nat.le_of_ble_eq_true rfl⟩ rfl (Nat.le_of_ble_eq_true rfl) dX6_takes_14 (fun u h => ?_)
  obtain ⟨m_waitX_1, m_waitY_1, m_waitSide_1, m_waits_1⟩ := u
  try dsimp only at h
  refine v_world (ws' := mw G ad forms sizes items moved latest rows m_fresh_1 oldMask oldRows known drawn label pile parts m_waitX_1 m_waitY_1 m_waitSide_1 m_waits_1 sign signs many) rfl ?_
  refine v_iconst C 0 dX6_takes_17 (by decide) ?_
  refine v_istore_n C [(2, .int 0), (0, .ref (ad 0)), (1, .int a1)] dX6_takes_18 rfl (by decide) rfl ?_
  have hl_2 : ∀ n_1 : Nat, ∀ (x2_1 : Int32) (fresh_1 : IA) (waitX_1 : IA) (waitY_1 : IA) (waitSide_1 : IA) (waits_1 : Int32), wl_Md_takes_19 sizes items a1 Q n_1 x2_1 fresh_1 waitX_1 waitY_1 waitSide_1 waits_1 → qm_V l G rmX6_takes 8 X (mw G ad forms sizes items moved latest rows fresh_1 oldMask oldRows known drawn label pile parts waitX_1 waitY_1 waitSide_1 waits_1 sign signs many) [(2, .int x2_1), (0, .ref (ad 0)), (1, .int a1)] 19 [] := by
    intro n_1
    induction n_1 with
    | zero =>
      intro x2_1 fresh_1 waitX_1 waitY_1 waitSide_1 waits_1 h
      exact False.elim h
    | succ n_1 ih_1 =>
      intro x2_1 fresh_1 waitX_1 waitY_1 waitSide_1 waits_1 h
      rw [wl_Md_takes_19] at h
      refine v_aload_n C dX6_takes_19 rfl 1 rfl ?_
      refine v_get C iX6_takes_6 0 rfl rfl 17 (by decide) mX6_takes_w1 rfl rfl dX6_takes_20 ?_
      refine v_if_le C 189 dX6_takes_23 (by decide) (fun c_8 => ?_) (fun c_8 => ?_)
      · replace h := h.1 c_8
        refine v_iload_n C dX6_takes_189 rfl 0 rfl ?_
        exact hret _ _ _ x2_1 (fresh_1, waitX_1, waitY_1, waitSide_1, waits_1) h rfl dX6_takes_190
      · replace h := h.2 c_8
        refine v_aload_n C dX6_takes_26 rfl 1 rfl ?_
        refine v_dup C dX6_takes_27 rfl ?_
        refine v_get C iX6_takes_6 0 rfl rfl 17 (by decide) mX6_takes_w1 rfl rfl dX6_takes_28 ?_
        refine v_iconst C 1 dX6_takes_31 (by decide) ?_
        refine v_isub C dX6_takes_32 ?_
        refine v_topi (fun v_waits_1 ev_waits_1 => ?_)
        replace h := h v_waits_1 ev_waits_1
        refine v_put C iX6_takes_6 tyX6_ok nmX6 0 rfl rfl 17 (by decide) mX6_takes_w1 rfl rfl rfl rfl rfl (Nat.le_of_ble_eq_true rfl) (ws' := mw G ad forms sizes items moved latest rows fresh_1 oldMask oldRows known drawn label pile parts waitX_1 waitY_1 waitSide_1 v_waits_1 sign signs many) rfl dX6_takes_33 ?_
        refine v_aload_n C dX6_takes_36 rfl 1 rfl ?_
        refine v_get C iX6_takes_6 0 rfl rfl 14 (by decide) mX6_takes_w2 rfl rfl dX6_takes_37 ?_
        refine v_aload_n C dX6_takes_40 rfl 1 rfl ?_
        refine v_get C iX6_takes_6 0 rfl rfl 17 (by decide) mX6_takes_w1 rfl rfl dX6_takes_41 ?_
        obtain ⟨hin_1, h⟩ := h
        refine v_iald C 11 rfl hin_1 dX6_takes_44 ?_
        refine v_topi (fun x3_1 ex3_1 => ?_)
        replace h := h x3_1 ex3_1
        refine v_istore_n C [(3, .int x3_1), (2, .int x2_1), (0, .ref (ad 0)), (1, .int a1)] dX6_takes_45 rfl (by decide) rfl ?_
        refine v_aload_n C dX6_takes_46 rfl 2 rfl ?_
        refine v_get C iX6_takes_6 0 rfl rfl 15 (by decide) mX6_takes_w3 rfl rfl dX6_takes_47 ?_
        refine v_aload_n C dX6_takes_50 rfl 2 rfl ?_
        refine v_get C iX6_takes_6 0 rfl rfl 17 (by decide) mX6_takes_w1 rfl rfl dX6_takes_51 ?_
        obtain ⟨hin_2, h⟩ := h
        refine v_iald C 12 rfl hin_2 dX6_takes_54 ?_
        refine v_topi (fun x4_1 ex4_1 => ?_)
        replace h := h x4_1 ex4_1
        refine v_istore C [(4, .int x4_1), (3, .int x3_1), (2, .int x2_1), (0, .ref (ad 0)), (1, .int a1)] dX6_takes_55 (by decide) rfl ?_
        refine v_aload_n C dX6_takes_57 rfl 3 rfl ?_
        refine v_get C iX6_takes_6 0 rfl rfl 16 (by decide) mX6_takes_w4 rfl rfl dX6_takes_58 ?_
        refine v_aload_n C dX6_takes_61 rfl 3 rfl ?_
        refine v_get C iX6_takes_6 0 rfl rfl 17 (by decide) mX6_takes_w1 rfl rfl dX6_takes_62 ?_
        obtain ⟨hin_3, h⟩ := h
        refine v_iald C 13 rfl hin_3 dX6_takes_65 ?_
        refine v_topi (fun x5_1 ex5_1 => ?_)
        replace h := h x5_1 ex5_1
        refine v_istore C [(5, .int x5_1), (4, .int x4_1), (3, .int x3_1), (2, .int x2_1), (0, .ref (ad 0)), (1, .int a1)] dX6_takes_66 (by decide) rfl ?_
        refine v_iload_n C dX6_takes_68 rfl 3 rfl ?_
        refine v_aload_n C dX6_takes_69 rfl 4 rfl ?_
        refine v_get C iX6_takes_6 0 rfl rfl 1 (by decide) mX6_takes_w5 rfl rfl dX6_takes_70 ?_
        refine v_iload_n C dX6_takes_73 rfl 5 rfl ?_
        obtain ⟨hin_4, h⟩ := h
        refine v_iald C 2 rfl hin_4 dX6_takes_74 ?_
        have hJ_3 : ∀ (t_1 : Int32), (wj_Md_takes_93 Q x2_1 fresh_1 waitX_1 waitY_1 waitSide_1 (wl_Md_takes_19 sizes items a1 Q n_1) v_waits_1 x3_1 x4_1 x5_1) t_1 → qm_V l G rmX6_takes 8 X (mw G ad forms sizes items moved latest rows fresh_1 oldMask oldRows known drawn label pile parts waitX_1 waitY_1 waitSide_1 v_waits_1 sign signs many) [(5, .int x5_1), (4, .int x4_1), (3, .int x3_1), (2, .int x2_1), (0, .ref (ad 0)), (1, .int a1)] 93 [.int t_1] := by
          intro t_1 h
          unfold wj_Md_takes_93 at h
          refine v_istore C [(6, .int t_1), (5, .int x5_1), (4, .int x4_1), (3, .int x3_1), (2, .int x2_1), (0, .ref (ad 0)), (1, .int a1)] dX6_takes_93 (by decide) rfl ?_
          refine v_iload C dX6_takes_95 0 rfl ?_
          refine v_i2l C dX6_takes_97 ?_
          refine v_lconst C 0 dX6_takes_98 (by decide) ?_
          refine v_ldc2 C 2 mX6_takes_w7 dX6_takes_99 ?_
          refine v_callSi C (c_Md_in l G (mw G ad forms sizes items moved latest rows fresh_1 oldMask oldRows known drawn label pile parts waitX_1 waitY_1 waitSide_1 v_waits_1 sign signs many) (Int32.toInt64 t_1) 0 2 h) gX6_takes_X6_in rfl kX6_in ⟨rfl, rfl⟩ ⟨Nat.le_of_ble_eq_true rfl, Nat.le_of_ble_eq_true rfl⟩ rfl (Nat.le_of_ble_eq_true rfl) dX6_takes_102 (fun r_1 _ h => ?_)
          try dsimp only at h
          refine v_if_eq C 120 dX6_takes_105 (by decide) (fun c_6 => ?_) (fun c_6 => ?_)
          · replace h := h.1 c_6
            refine v_iconst C (-1) dX6_takes_120 (by decide) ?_
            exact hret _ _ _ (-1) (fresh_1, waitX_1, waitY_1, waitSide_1, v_waits_1) h rfl dX6_takes_121
          · replace h := h.2 c_6
            refine v_iload C dX6_takes_108 0 rfl ?_
            refine v_iconst C 2 dX6_takes_110 (by decide) ?_
            have hJ_2 : (wj_Md_takes_122 x2_1 fresh_1 waitX_1 waitY_1 waitSide_1 (wl_Md_takes_19 sizes items a1 Q n_1) v_waits_1 x3_1 x4_1 x5_1 t_1) → qm_V l G rmX6_takes 8 X (mw G ad forms sizes items moved latest rows fresh_1 oldMask oldRows known drawn label pile parts waitX_1 waitY_1 waitSide_1 v_waits_1 sign signs many) [(6, .int t_1), (5, .int x5_1), (4, .int x4_1), (3, .int x3_1), (2, .int x2_1), (0, .ref (ad 0)), (1, .int a1)] 122 [] := by
              intro h
              unfold wj_Md_takes_122 at h
              refine v_iinc C (x2_1 + 1) 4 [(2, .int (x2_1 + 1)), (6, .int t_1), (5, .int x5_1), (4, .int x4_1), (3, .int x3_1), (0, .ref (ad 0)), (1, .int a1)] dX6_takes_122 rfl rfl (by decide) rfl ?_
              refine v_iload C dX6_takes_125 1 rfl ?_
              refine v_iconst C 2 dX6_takes_127 (by decide) ?_
              have hJ_1 : ∀ (waitX_2 : IA) (waitY_2 : IA) (waitSide_2 : IA) (waits_2 : Int32), (wj_Md_takes_140 x2_1 fresh_1 (wl_Md_takes_19 sizes items a1 Q n_1) x3_1 x4_1 x5_1 t_1) waitX_2 waitY_2 waitSide_2 waits_2 → qm_V l G rmX6_takes 8 X (mw G ad forms sizes items moved latest rows fresh_1 oldMask oldRows known drawn label pile parts waitX_2 waitY_2 waitSide_2 waits_2 sign signs many) [(2, .int (x2_1 + 1)), (6, .int t_1), (5, .int x5_1), (4, .int x4_1), (3, .int x3_1), (0, .ref (ad 0)), (1, .int a1)] 140 [] := by
                intro waitX_2 waitY_2 waitSide_2 waits_2 h
                unfold wj_Md_takes_140 at h
                refine v_iconst C 0 dX6_takes_140 (by decide) ?_
                refine v_istore C [(7, .int 0), (2, .int (x2_1 + 1)), (6, .int t_1), (5, .int x5_1), (4, .int x4_1), (3, .int x3_1), (0, .ref (ad 0)), (1, .int a1)] dX6_takes_141 (by decide) rfl ?_
                have hx_1 : ∀ (x7_2 : Int32) (fresh_3 : IA), (fun (x7_2 : Int32) (fresh_3 : IA) => (wl_Md_takes_19 sizes items a1 Q n_1) (x2_1 + 1) fresh_3 waitX_2 waitY_2 waitSide_2 waits_2) x7_2 fresh_3 → qm_V l G rmX6_takes 8 X (mw G ad forms sizes items moved latest rows fresh_3 oldMask oldRows known drawn label pile parts waitX_2 waitY_2 waitSide_2 waits_2 sign signs many) [(7, .int x7_2), (2, .int (x2_1 + 1)), (6, .int t_1), (5, .int x5_1), (4, .int x4_1), (3, .int x3_1), (0, .ref (ad 0)), (1, .int a1)] 186 [] := by
                  intro x7_2 fresh_3 h
                  try dsimp only at h
                  refine v_goto C 19 dX6_takes_186 (by decide) ?_
                  refine v_perm [1, 6, 7] rfl ?_
                  exact ih_1 (x2_1 + 1) fresh_3 waitX_2 waitY_2 waitSide_2 waits_2 h
                have hl_1 : ∀ n_2 : Nat, ∀ (x7_1 : Int32) (fresh_2 : IA), wl_Md_takes_143 x3_1 x4_1 x5_1 t_1 (fun (x7_2 : Int32) (fresh_3 : IA) => (wl_Md_takes_19 sizes items a1 Q n_1) (x2_1 + 1) fresh_3 waitX_2 waitY_2 waitSide_2 waits_2) n_2 x7_1 fresh_2 → qm_V l G rmX6_takes 8 X (mw G ad forms sizes items moved latest rows fresh_2 oldMask oldRows known drawn label pile parts waitX_2 waitY_2 waitSide_2 waits_2 sign signs many) [(7, .int x7_1), (2, .int (x2_1 + 1)), (6, .int t_1), (5, .int x5_1), (4, .int x4_1), (3, .int x3_1), (0, .ref (ad 0)), (1, .int a1)] 143 [] := by
                  intro n_2
                  induction n_2 with
                  | zero =>
                    intro x7_1 fresh_2 h
                    exact False.elim h
                  | succ n_2 ih_2 =>
                    intro x7_1 fresh_2 h
                    rw [wl_Md_takes_143] at h
                    refine v_iload C dX6_takes_143 0 rfl ?_
                    refine v_iload C dX6_takes_145 3 rfl ?_
                    refine v_iload C dX6_takes_147 3 rfl ?_
                    refine v_imul C dX6_takes_149 ?_
                    refine v_icmp_ge C 186 dX6_takes_150 (by decide) (fun c_2 => ?_) (fun c_2 => ?_)
                    · replace h := h.1 c_2
                      exact hx_1 x7_1 fresh_2 h
                    · replace h := h.2 c_2
                      refine v_iload C dX6_takes_153 2 rfl ?_
                      refine v_iconst C 2 dX6_takes_155 (by decide) ?_
                      refine v_icmp_ge C 186 dX6_takes_156 (by decide) (fun c_1 => ?_) (fun c_1 => ?_)
                      · replace h := h.1 c_1
                        exact hx_1 x7_1 fresh_2 h
                      · replace h := h.2 c_1
                        refine v_aload_n C dX6_takes_159 rfl 6 rfl ?_
                        refine v_iload_n C dX6_takes_160 rfl 5 rfl ?_
                        refine v_iload C dX6_takes_161 0 rfl ?_
                        refine v_iload C dX6_takes_163 3 rfl ?_
                        obtain ⟨hz_1, h⟩ := h
                        refine v_irem C dX6_takes_165 hz_1 ?_
                        refine v_iadd C dX6_takes_166 ?_
                        refine v_iload C dX6_takes_167 4 rfl ?_
                        refine v_iload C dX6_takes_169 0 rfl ?_
                        refine v_iload C dX6_takes_171 3 rfl ?_
                        obtain ⟨hz_2, h⟩ := h
                        refine v_idiv C dX6_takes_173 hz_2 ?_
                        refine v_iadd C dX6_takes_174 ?_
                        refine v_iload C dX6_takes_175 2 rfl ?_
                        refine v_callVv C (c_Md_sets l G ad forms sizes items moved latest rows fresh_2 oldMask oldRows known drawn label pile parts waitX_2 waitY_2 waitSide_2 waits_2 sign signs many (x3_1 + (jrem x7_1 x5_1)) (x4_1 + (x7_1 / x5_1)) t_1 h) 0 rfl rfl gX6_takes_X6_sets rfl kX6_sets ⟨rfl, rfl⟩ ⟨Nat.le_of_ble_eq_true rfl, Nat.le_of_ble_eq_true rfl⟩ rfl (Nat.le_of_ble_eq_true rfl) dX6_takes_177 (fun m_fresh_2 h => ?_)
                        try dsimp only at h
                        refine v_world (ws' := mw G ad forms sizes items moved latest rows m_fresh_2 oldMask oldRows known drawn label pile parts waitX_2 waitY_2 waitSide_2 waits_2 sign signs many) rfl ?_
                        refine v_iinc C (x7_1 + 1) 0 [(7, .int (x7_1 + 1)), (2, .int (x2_1 + 1)), (6, .int t_1), (5, .int x5_1), (4, .int x4_1), (3, .int x3_1), (0, .ref (ad 0)), (1, .int a1)] dX6_takes_180 rfl rfl (by decide) rfl ?_
                        refine v_goto C 143 dX6_takes_183 (by decide) ?_
                        exact ih_2 (x7_1 + 1) m_fresh_2 h
                obtain ⟨k_1, h⟩ := h
                exact hl_1 k_1 0 fresh_1 h
              replace h := jn_use h
              try dsimp only at h
              refine v_icmp_ne C 140 dX6_takes_128 (by decide) (fun c_3 => ?_) (fun c_3 => ?_)
              · replace h := h.2 c_3
                exact hJ_1 waitX_1 waitY_1 waitSide_1 v_waits_1 h
              · replace h := h.1 c_3
                refine v_aload_n C dX6_takes_131 rfl 5 rfl ?_
                refine v_iload_n C dX6_takes_132 rfl 4 rfl ?_
                refine v_iload C dX6_takes_133 3 rfl ?_
                refine v_iload C dX6_takes_135 2 rfl ?_
                refine v_callVv C (c_Md_quarters l G ad forms sizes items moved latest rows fresh_1 oldMask oldRows known drawn label pile parts waitX_1 waitY_1 waitSide_1 v_waits_1 sign signs many x3_1 x4_1 x5_1 h) 0 rfl rfl gX6_takes_X6_quarters rfl kX6_quarters ⟨rfl, rfl⟩ ⟨Nat.le_of_ble_eq_true rfl, Nat.le_of_ble_eq_true rfl⟩ rfl (Nat.le_of_ble_eq_true rfl) dX6_takes_137 (fun u h => ?_)
                obtain ⟨m_waitX_2, m_waitY_2, m_waitSide_2, m_waits_2⟩ := u
                try dsimp only at h
                refine v_world (ws' := mw G ad forms sizes items moved latest rows fresh_1 oldMask oldRows known drawn label pile parts m_waitX_2 m_waitY_2 m_waitSide_2 m_waits_2 sign signs many) rfl ?_
                exact hJ_1 m_waitX_2 m_waitY_2 m_waitSide_2 m_waits_2 h
            replace h := jn_use h
            try dsimp only at h
            refine v_icmp_ne C 122 dX6_takes_111 (by decide) (fun c_5 => ?_) (fun c_5 => ?_)
            · replace h := h.2 c_5
              exact hJ_2 h
            · replace h := h.1 c_5
              refine v_iload C dX6_takes_114 1 rfl ?_
              refine v_iconst C 1 dX6_takes_116 (by decide) ?_
              refine v_icmp_ne C 122 dX6_takes_117 (by decide) (fun c_4 => ?_) (fun c_4 => ?_)
              · replace h := h.2 c_4
                exact hJ_2 h
              · replace h := h.1 c_4
                refine v_iconst C (-1) dX6_takes_120 (by decide) ?_
                exact hret _ _ _ (-1) (fresh_1, waitX_1, waitY_1, waitSide_1, v_waits_1) h rfl dX6_takes_121
        replace h := jn_use h
        try dsimp only at h
        refine v_icmp_ge C 92 dX6_takes_75 (by decide) (fun c_7 => ?_) (fun c_7 => ?_)
        · replace h := h.1 c_7
          refine v_iconst C (-1) dX6_takes_92 (by decide) ?_
          exact hJ_3 (-1) h
        · replace h := h.2 c_7
          refine v_aload_n C dX6_takes_78 rfl 4 rfl ?_
          refine v_get C iX6_takes_6 0 rfl rfl 2 (by decide) mX6_takes_w6 rfl rfl dX6_takes_79 ?_
          refine v_bipush C 60 dX6_takes_82 (by decide) ?_
          refine v_iload_n C dX6_takes_84 rfl 5 rfl ?_
          refine v_imul C dX6_takes_85 ?_
          refine v_iload_n C dX6_takes_86 rfl 3 rfl ?_
          refine v_iadd C dX6_takes_87 ?_
          obtain ⟨hin_5, h⟩ := h
          refine v_iald C 3 rfl hin_5 dX6_takes_88 ?_
          refine v_goto C 93 dX6_takes_89 (by decide) ?_
          exact hJ_3 (items ((60 * a1) + x2_1).toNatClampNeg) h
  obtain ⟨k_2, h⟩ := h
  exact hl_2 k_2 0 m_fresh_1 m_waitX_1 m_waitY_1 m_waitSide_1 m_waits_1 h
-- QuarterMasksModel.read
def rmX6_read : Room := { frames := 4, cells := 0, slots := 0, locals := 114 }
theorem kX6_read : yX6_read.cls = RX6 ∧ yX6_read.cls ≠ "java/lang/invoke/MethodHandle" ∧ yX6_read.cls ≠ "java/lang/invoke/VarHandle" ∧ (parseMethodDescriptor yX6_read.desc).map (fun d => d.parameters.length) = some 2 := by decide +kernel
theorem mX6_read_w1 : Cond.fieldLink RX6 7 "QuarterMasksModel" "forms" "[I" ∈ wsX6_read := List.mem_of_getElem? (i := 1) rfl
theorem iX6_read_6 : ∀ w ∈ wsX60, w ∈ wsX6_read := fun w h => List.mem_cons_of_mem _ (List.mem_append_right _ h)
def wp_Md_read (forms : IA) (sizes : IA) (items : IA) (latest : Int32) (rows : IA) (fresh : IA) (oldMask : IA) (oldRows : IA) (known : Int32) (waitX : IA) (waitY : IA) (waitSide : IA) (waits : Int32) (a1 : Int32) (a2 : Int32) (Q : Int32 → Int32 → IA → IA → IA → IA → Int32 → IA → IA → IA → Int32 → Prop) : Prop :=
  wp_Md_isMask a1 (fun r_1 => (r_1 = 0 → (Q (-2) latest rows fresh oldMask oldRows known waitX waitY waitSide waits)) ∧ (¬ r_1 = 0 → (wp_Md_isSheet a2 (fun r_2 => (r_2 = 0 → (Q (-2) latest rows fresh oldMask oldRows known waitX waitY waitSide waits)) ∧ (¬ r_2 = 0 → (vp_in a2 4 ∧ ((0 ≤ (forms a2.toNatClampNeg) → (wp_Md_takes sizes items fresh waitX waitY waitSide a2 (fun r_3 m_fresh_1 m_waitX_1 m_waitY_1 m_waitSide_1 m_waits_1 => (r_3 = (-1) → (Q (-3) latest rows m_fresh_1 oldMask oldRows known m_waitX_1 m_waitY_1 m_waitSide_1 m_waits_1)) ∧ (¬ r_3 = (-1) → (wp_Md_becomes rows m_fresh_1 oldMask oldRows known a1 (fun m_rows_1 m_oldMask_1 m_oldRows_1 m_known_1 => Q r_3 latest m_rows_1 m_fresh_1 m_oldMask_1 m_oldRows_1 m_known_1 m_waitX_1 m_waitY_1 m_waitSide_1 m_waits_1)))))) ∧ (¬ 0 ≤ (forms a2.toNatClampNeg) → (wp_Md_finds 1 (fun r_4 m_latest_1 => Q r_4 m_latest_1 rows fresh oldMask oldRows known waitX waitY waitSide waits))))))))))
set_option maxHeartbeats 4000000 in
theorem c_Md_read (l : Launch) (G : GG) (ad : Nat → Nat) (forms : IA) (sizes : IA) (items : IA) (moved : IA) (latest : Int32) (rows : IA) (fresh : IA) (oldMask : IA) (oldRows : IA) (known : Int32) (drawn : Int32) (label : IA) (pile : IA) (parts : Int32) (waitX : IA) (waitY : IA) (waitSide : IA) (waits : Int32) (sign : IA) (signs : Int32) (many : IA) (a1 : Int32) (a2 : Int32) {Q : Int32 → Int32 → IA → IA → IA → IA → Int32 → IA → IA → IA → Int32 → Prop} (h : wp_Md_read forms sizes items latest rows fresh oldMask oldRows known waitX waitY waitSide waits a1 a2 Q) : qm_MI l yX6_read wsX6_read rmX6_read G [.ref (ad 0), .int a1, .int a2] (mw G ad forms sizes items moved latest rows fresh oldMask oldRows known drawn label pile parts waitX waitY waitSide waits sign signs many) (fun (r : Int32) (u : Int32 × IA × IA × IA × IA × Int32 × IA × IA × IA × Int32) => Q r u.1 u.2.1 u.2.2.1 u.2.2.2.1 u.2.2.2.2.1 u.2.2.2.2.2.1 u.2.2.2.2.2.2.1 u.2.2.2.2.2.2.2.1 u.2.2.2.2.2.2.2.2.1 u.2.2.2.2.2.2.2.2.2) (fun (u : Int32 × IA × IA × IA × IA × Int32 × IA × IA × IA × Int32) => mw G ad forms sizes items moved u.1 u.2.1 u.2.2.1 u.2.2.2.1 u.2.2.2.2.1 u.2.2.2.2.2.1 drawn label pile parts u.2.2.2.2.2.2.1 u.2.2.2.2.2.2.2.1 u.2.2.2.2.2.2.2.2.1 u.2.2.2.2.2.2.2.2.2 sign signs many) := by
  refine qm_mkI (cc := cX6_read) (maxL := 4) (by decide) rfl (Nat.le_of_ble_eq_true rfl) ?_
  intro X C hret
  replace C : qm_C G 4 X cX6_read wsX6_read RX6 := C
  refine v_lv (lv' := [(0, .ref (ad 0)), (1, .int a1), (2, .int a2)]) rfl ?_
  unfold wp_Md_read at h
  refine v_iload_n C dX6_read_0 rfl 1 rfl ?_
  refine v_callSi C (c_Md_isMask l G (mw G ad forms sizes items moved latest rows fresh oldMask oldRows known drawn label pile parts waitX waitY waitSide waits sign signs many) a1 h) gX6_read_X6_isMask rfl kX6_isMask ⟨rfl, rfl⟩ ⟨Nat.le_of_ble_eq_true rfl, Nat.le_of_ble_eq_true rfl⟩ rfl (Nat.le_of_ble_eq_true rfl) dX6_read_1 (fun r_1 _ h => ?_)
  try dsimp only at h
  refine v_if_eq C 14 dX6_read_4 (by decide) (fun c_4 => ?_) (fun c_4 => ?_)
  · replace h := h.1 c_4
    refine v_bipush C (-2) dX6_read_14 (by decide) ?_
    exact hret _ _ _ (-2) (latest, rows, fresh, oldMask, oldRows, known, waitX, waitY, waitSide, waits) h rfl dX6_read_16
  · replace h := h.2 c_4
    refine v_iload_n C dX6_read_7 rfl 2 rfl ?_
    refine v_callSi C (c_Md_isSheet l G (mw G ad forms sizes items moved latest rows fresh oldMask oldRows known drawn label pile parts waitX waitY waitSide waits sign signs many) a2 h) gX6_read_X6_isSheet rfl kX6_isSheet ⟨rfl, rfl⟩ ⟨Nat.le_of_ble_eq_true rfl, Nat.le_of_ble_eq_true rfl⟩ rfl (Nat.le_of_ble_eq_true rfl) dX6_read_8 (fun r_2 _ h => ?_)
    try dsimp only at h
    refine v_if_ne C 17 dX6_read_11 (by decide) (fun c_3 => ?_) (fun c_3 => ?_)
    · replace h := h.2 c_3
      refine v_aload_n C dX6_read_17 rfl 0 rfl ?_
      refine v_get C iX6_read_6 0 rfl rfl 0 (by decide) mX6_read_w1 rfl rfl dX6_read_18 ?_
      refine v_iload_n C dX6_read_21 rfl 2 rfl ?_
      obtain ⟨hin_1, h⟩ := h
      refine v_iald C 1 rfl hin_1 dX6_read_22 ?_
      refine v_if_ge C 32 dX6_read_23 (by decide) (fun c_2 => ?_) (fun c_2 => ?_)
      · replace h := h.1 c_2
        refine v_aload_n C dX6_read_32 rfl 0 rfl ?_
        refine v_iload_n C dX6_read_33 rfl 2 rfl ?_
        refine v_callVi C (c_Md_takes l G ad forms sizes items moved latest rows fresh oldMask oldRows known drawn label pile parts waitX waitY waitSide waits sign signs many a2 h) 0 rfl rfl gX6_read_X6_takes rfl kX6_takes ⟨rfl, rfl⟩ ⟨Nat.le_of_ble_eq_true rfl, Nat.le_of_ble_eq_true rfl⟩ rfl (Nat.le_of_ble_eq_true rfl) dX6_read_34 (fun r_3 u h => ?_)
        obtain ⟨m_fresh_1, m_waitX_1, m_waitY_1, m_waitSide_1, m_waits_1⟩ := u
        try dsimp only at h
        refine v_world (ws' := mw G ad forms sizes items moved latest rows m_fresh_1 oldMask oldRows known drawn label pile parts m_waitX_1 m_waitY_1 m_waitSide_1 m_waits_1 sign signs many) rfl ?_
        refine v_istore_n C [(3, .int r_3), (0, .ref (ad 0)), (1, .int a1), (2, .int a2)] dX6_read_37 rfl (by decide) rfl ?_
        refine v_iload_n C dX6_read_38 rfl 0 rfl ?_
        refine v_iconst C (-1) dX6_read_39 (by decide) ?_
        refine v_icmp_ne C 46 dX6_read_40 (by decide) (fun c_1 => ?_) (fun c_1 => ?_)
        · replace h := h.2 c_1
          refine v_aload_n C dX6_read_46 rfl 1 rfl ?_
          refine v_iload_n C dX6_read_47 rfl 2 rfl ?_
          refine v_callVv C (c_Md_becomes l G ad forms sizes items moved latest rows m_fresh_1 oldMask oldRows known drawn label pile parts m_waitX_1 m_waitY_1 m_waitSide_1 m_waits_1 sign signs many a1 h) 0 rfl rfl gX6_read_X6_becomes rfl kX6_becomes ⟨rfl, rfl⟩ ⟨Nat.le_of_ble_eq_true rfl, Nat.le_of_ble_eq_true rfl⟩ rfl (Nat.le_of_ble_eq_true rfl) dX6_read_48 (fun u h => ?_)
          obtain ⟨m_rows_1, m_oldMask_1, m_oldRows_1, m_known_1⟩ := u
          try dsimp only at h
          refine v_world (ws' := mw G ad forms sizes items moved latest m_rows_1 m_fresh_1 m_oldMask_1 m_oldRows_1 m_known_1 drawn label pile parts m_waitX_1 m_waitY_1 m_waitSide_1 m_waits_1 sign signs many) rfl ?_
          refine v_iload_n C dX6_read_51 rfl 0 rfl ?_
          exact hret _ _ _ r_3 (latest, m_rows_1, m_fresh_1, m_oldMask_1, m_oldRows_1, m_known_1, m_waitX_1, m_waitY_1, m_waitSide_1, m_waits_1) h rfl dX6_read_52
        · replace h := h.1 c_1
          refine v_bipush C (-3) dX6_read_43 (by decide) ?_
          exact hret _ _ _ (-3) (latest, rows, m_fresh_1, oldMask, oldRows, known, m_waitX_1, m_waitY_1, m_waitSide_1, m_waits_1) h rfl dX6_read_45
      · replace h := h.2 c_2
        refine v_aload_n C dX6_read_26 rfl 0 rfl ?_
        refine v_iconst C 1 dX6_read_27 (by decide) ?_
        refine v_callVi C (c_Md_finds l G ad forms sizes items moved latest rows fresh oldMask oldRows known drawn label pile parts waitX waitY waitSide waits sign signs many 1 h) 0 rfl rfl gX6_read_X6_finds rfl kX6_finds ⟨rfl, rfl⟩ ⟨Nat.le_of_ble_eq_true rfl, Nat.le_of_ble_eq_true rfl⟩ rfl (Nat.le_of_ble_eq_true rfl) dX6_read_28 (fun r_4 m_latest_1 h => ?_)
        try dsimp only at h
        refine v_world (ws' := mw G ad forms sizes items moved m_latest_1 rows fresh oldMask oldRows known drawn label pile parts waitX waitY waitSide waits sign signs many) rfl ?_
        exact hret _ _ _ r_4 (m_latest_1, rows, fresh, oldMask, oldRows, known, waitX, waitY, waitSide, waits) h rfl dX6_read_31
    · replace h := h.1 c_3
      refine v_bipush C (-2) dX6_read_14 (by decide) ?_
      exact hret _ _ _ (-2) (latest, rows, fresh, oldMask, oldRows, known, waitX, waitY, waitSide, waits) h rfl dX6_read_16
-- QuarterMasksModel.back
def rmX6_back : Room := { frames := 1, cells := 0, slots := 0, locals := 40 }
theorem kX6_back : yX6_back.cls = RX6 ∧ yX6_back.cls ≠ "java/lang/invoke/MethodHandle" ∧ yX6_back.cls ≠ "java/lang/invoke/VarHandle" ∧ (parseMethodDescriptor yX6_back.desc).map (fun d => d.parameters.length) = some 0 := by decide +kernel
theorem mX6_back_w1 : Cond.fieldLink RX6 93 "QuarterMasksModel" "known" "I" ∈ wsX6_back := List.mem_of_getElem? (i := 1) rfl
theorem iX6_back_6 : ∀ w ∈ wsX60, w ∈ wsX6_back := fun w h => List.mem_cons_of_mem _ (List.mem_append_right _ h)
theorem mX6_back_w2 : Cond.fieldLink RX6 22 "QuarterMasksModel" "rows" "[I" ∈ wsX6_back := List.mem_of_getElem? (i := 2) rfl
theorem mX6_back_w3 : Cond.fieldLink RX6 28 "QuarterMasksModel" "oldMask" "[I" ∈ wsX6_back := List.mem_of_getElem? (i := 3) rfl
theorem mX6_back_w4 : Cond.fieldLink RX6 31 "QuarterMasksModel" "oldRows" "[I" ∈ wsX6_back := List.mem_of_getElem? (i := 4) rfl
def wl_Md_back_22 (oldMask : IA) (oldRows : IA) (Q : Int32 → IA → Int32 → Prop) (v_known_1 : Int32) : Nat → Int32 → IA → Prop
  | 0, _, _ => False
  | n + 1, x1_1, rows_1 => (16 ≤ x1_1 → (Q v_known_1 rows_1 v_known_1)) ∧ (¬ 16 ≤ x1_1 → (vp_in v_known_1 40 ∧ (vp_in ((16 * v_known_1) + x1_1) 640 ∧ (vp_in ((16 * (oldMask v_known_1.toNatClampNeg)) + x1_1) 64 ∧ (∀ f_rows_1 : IA, f_rows_1 = upd rows_1 ((16 * (oldMask v_known_1.toNatClampNeg)) + x1_1).toNatClampNeg (oldRows ((16 * v_known_1) + x1_1).toNatClampNeg) → ((wl_Md_back_22 oldMask oldRows Q v_known_1 n) (x1_1 + 1) f_rows_1))))))
def wp_Md_back (rows : IA) (oldMask : IA) (oldRows : IA) (known : Int32)  (Q : Int32 → IA → Int32 → Prop) : Prop :=
  (known = 0 → (Q (-3) rows known)) ∧ (¬ known = 0 → (∀ v_known_1 : Int32, v_known_1 = (known - 1) → (∃ k_1 : Nat, wl_Md_back_22 oldMask oldRows Q v_known_1 k_1 0 rows)))
set_option maxHeartbeats 4000000 in
theorem c_Md_back (l : Launch) (G : GG) (ad : Nat → Nat) (forms : IA) (sizes : IA) (items : IA) (moved : IA) (latest : Int32) (rows : IA) (fresh : IA) (oldMask : IA) (oldRows : IA) (known : Int32) (drawn : Int32) (label : IA) (pile : IA) (parts : Int32) (waitX : IA) (waitY : IA) (waitSide : IA) (waits : Int32) (sign : IA) (signs : Int32) (many : IA)  {Q : Int32 → IA → Int32 → Prop} (h : wp_Md_back rows oldMask oldRows known Q) : qm_MI l yX6_back wsX6_back rmX6_back G [.ref (ad 0)] (mw G ad forms sizes items moved latest rows fresh oldMask oldRows known drawn label pile parts waitX waitY waitSide waits sign signs many) (fun (r : Int32) (u : IA × Int32) => Q r u.1 u.2) (fun (u : IA × Int32) => mw G ad forms sizes items moved latest u.1 fresh oldMask oldRows u.2 drawn label pile parts waitX waitY waitSide waits sign signs many) := by
  refine qm_mkI (cc := cX6_back) (maxL := 2) (by decide) rfl (Nat.le_of_ble_eq_true rfl) ?_
  intro X C hret
  replace C : qm_C G 2 X cX6_back wsX6_back RX6 := C
  refine v_lv (lv' := [(0, .ref (ad 0))]) rfl ?_
  unfold wp_Md_back at h
  refine v_aload_n C dX6_back_0 rfl 0 rfl ?_
  refine v_get C iX6_back_6 0 rfl rfl 9 (by decide) mX6_back_w1 rfl rfl dX6_back_1 ?_
  refine v_if_ne C 10 dX6_back_4 (by decide) (fun c_2 => ?_) (fun c_2 => ?_)
  · replace h := h.2 c_2
    refine v_aload_n C dX6_back_10 rfl 0 rfl ?_
    refine v_dup C dX6_back_11 rfl ?_
    refine v_get C iX6_back_6 0 rfl rfl 9 (by decide) mX6_back_w1 rfl rfl dX6_back_12 ?_
    refine v_iconst C 1 dX6_back_15 (by decide) ?_
    refine v_isub C dX6_back_16 ?_
    refine v_topi (fun v_known_1 ev_known_1 => ?_)
    replace h := h v_known_1 ev_known_1
    refine v_put C iX6_back_6 tyX6_ok nmX6 0 rfl rfl 9 (by decide) mX6_back_w1 rfl rfl rfl rfl rfl (Nat.le_of_ble_eq_true rfl) (ws' := mw G ad forms sizes items moved latest rows fresh oldMask oldRows v_known_1 drawn label pile parts waitX waitY waitSide waits sign signs many) rfl dX6_back_17 ?_
    refine v_iconst C 0 dX6_back_20 (by decide) ?_
    refine v_istore_n C [(1, .int 0), (0, .ref (ad 0))] dX6_back_21 rfl (by decide) rfl ?_
    have hl_1 : ∀ n_1 : Nat, ∀ (x1_1 : Int32) (rows_1 : IA), wl_Md_back_22 oldMask oldRows Q v_known_1 n_1 x1_1 rows_1 → qm_V l G rmX6_back 2 X (mw G ad forms sizes items moved latest rows_1 fresh oldMask oldRows v_known_1 drawn label pile parts waitX waitY waitSide waits sign signs many) [(1, .int x1_1), (0, .ref (ad 0))] 22 [] := by
      intro n_1
      induction n_1 with
      | zero =>
        intro x1_1 rows_1 h
        exact False.elim h
      | succ n_1 ih_1 =>
        intro x1_1 rows_1 h
        rw [wl_Md_back_22] at h
        refine v_iload_n C dX6_back_22 rfl 0 rfl ?_
        refine v_bipush C 16 dX6_back_23 (by decide) ?_
        refine v_icmp_ge C 67 dX6_back_25 (by decide) (fun c_1 => ?_) (fun c_1 => ?_)
        · replace h := h.1 c_1
          refine v_aload_n C dX6_back_67 rfl 1 rfl ?_
          refine v_get C iX6_back_6 0 rfl rfl 9 (by decide) mX6_back_w1 rfl rfl dX6_back_68 ?_
          exact hret _ _ _ v_known_1 (rows_1, v_known_1) h rfl dX6_back_71
        · replace h := h.2 c_1
          refine v_aload_n C dX6_back_28 rfl 1 rfl ?_
          refine v_get C iX6_back_6 0 rfl rfl 5 (by decide) mX6_back_w2 rfl rfl dX6_back_29 ?_
          refine v_bipush C 16 dX6_back_32 (by decide) ?_
          refine v_aload_n C dX6_back_34 rfl 1 rfl ?_
          refine v_get C iX6_back_6 0 rfl rfl 7 (by decide) mX6_back_w3 rfl rfl dX6_back_35 ?_
          refine v_aload_n C dX6_back_38 rfl 1 rfl ?_
          refine v_get C iX6_back_6 0 rfl rfl 9 (by decide) mX6_back_w1 rfl rfl dX6_back_39 ?_
          obtain ⟨hin_1, h⟩ := h
          refine v_iald C 7 rfl hin_1 dX6_back_42 ?_
          refine v_imul C dX6_back_43 ?_
          refine v_iload_n C dX6_back_44 rfl 0 rfl ?_
          refine v_iadd C dX6_back_45 ?_
          refine v_aload_n C dX6_back_46 rfl 1 rfl ?_
          refine v_get C iX6_back_6 0 rfl rfl 8 (by decide) mX6_back_w4 rfl rfl dX6_back_47 ?_
          refine v_bipush C 16 dX6_back_50 (by decide) ?_
          refine v_aload_n C dX6_back_52 rfl 1 rfl ?_
          refine v_get C iX6_back_6 0 rfl rfl 9 (by decide) mX6_back_w1 rfl rfl dX6_back_53 ?_
          refine v_imul C dX6_back_56 ?_
          refine v_iload_n C dX6_back_57 rfl 0 rfl ?_
          refine v_iadd C dX6_back_58 ?_
          obtain ⟨hin_2, h⟩ := h
          refine v_iald C 8 rfl hin_2 dX6_back_59 ?_
          obtain ⟨hin_3, h⟩ := h
          obtain ⟨f_rows_1, ef_rows_1⟩ : ∃ y : IA, y = upd rows_1 ((16 * (oldMask v_known_1.toNatClampNeg)) + x1_1).toNatClampNeg (oldRows ((16 * v_known_1) + x1_1).toNatClampNeg) := ⟨_, rfl⟩
          replace h := h f_rows_1 ef_rows_1
          refine v_iast C 5 rfl (ws' := mw G ad forms sizes items moved latest f_rows_1 fresh oldMask oldRows v_known_1 drawn label pile parts waitX waitY waitSide waits sign signs many) (by subst ef_rows_1; exact rfl) hin_3 dX6_back_60 ?_
          refine v_iinc C (x1_1 + 1) 0 [(1, .int (x1_1 + 1)), (0, .ref (ad 0))] dX6_back_61 rfl rfl (by decide) rfl ?_
          refine v_goto C 22 dX6_back_64 (by decide) ?_
          exact ih_1 (x1_1 + 1) f_rows_1 h
    obtain ⟨k_1, h⟩ := h
    exact hl_1 k_1 0 rows h
  · replace h := h.1 c_2
    refine v_bipush C (-3) dX6_back_7 (by decide) ?_
    exact hret _ _ _ (-3) (rows, known) h rfl dX6_back_9
-- QuarterMasksModel.cell
def rmX6_cell : Room := { frames := 4, cells := 0, slots := 0, locals := 109 }
theorem kX6_cell : yX6_cell.cls = RX6 ∧ yX6_cell.cls ≠ "java/lang/invoke/MethodHandle" ∧ yX6_cell.cls ≠ "java/lang/invoke/VarHandle" ∧ (parseMethodDescriptor yX6_cell.desc).map (fun d => d.parameters.length) = some 3 := by decide +kernel
def wp_Md_cell (rows : IA) (a1 : Int32) (a2 : Int32) (a3 : Int32) (Q : Int32 → Prop) : Prop :=
  wp_Md_isMask a1 (fun r_1 => (r_1 = 0 → (Q (-2))) ∧ (¬ r_1 = 0 → (wp_Md_isCell a2 a3 (fun r_2 => (r_2 = 0 → (Q (-2))) ∧ (¬ r_2 = 0 → (wp_Md_dark rows a1 a2 a3 (fun r_3 => Q r_3)))))))
set_option maxHeartbeats 4000000 in
theorem c_Md_cell (l : Launch) (G : GG) (ad : Nat → Nat) (forms : IA) (sizes : IA) (items : IA) (moved : IA) (latest : Int32) (rows : IA) (fresh : IA) (oldMask : IA) (oldRows : IA) (known : Int32) (drawn : Int32) (label : IA) (pile : IA) (parts : Int32) (waitX : IA) (waitY : IA) (waitSide : IA) (waits : Int32) (sign : IA) (signs : Int32) (many : IA) (a1 : Int32) (a2 : Int32) (a3 : Int32) {Q : Int32 → Prop} (h : wp_Md_cell rows a1 a2 a3 Q) : qm_MI l yX6_cell wsX6_cell rmX6_cell G [.ref (ad 0), .int a1, .int a2, .int a3] (mw G ad forms sizes items moved latest rows fresh oldMask oldRows known drawn label pile parts waitX waitY waitSide waits sign signs many) (fun (r : Int32) (_ : Unit) => Q r) (fun (_ : Unit) => mw G ad forms sizes items moved latest rows fresh oldMask oldRows known drawn label pile parts waitX waitY waitSide waits sign signs many) := by
  refine qm_mkI (cc := cX6_cell) (maxL := 4) (by decide) rfl (Nat.le_of_ble_eq_true rfl) ?_
  intro X C hret
  replace C : qm_C G 4 X cX6_cell wsX6_cell RX6 := C
  refine v_lv (lv' := [(0, .ref (ad 0)), (1, .int a1), (2, .int a2), (3, .int a3)]) rfl ?_
  unfold wp_Md_cell at h
  refine v_iload_n C dX6_cell_0 rfl 1 rfl ?_
  refine v_callSi C (c_Md_isMask l G (mw G ad forms sizes items moved latest rows fresh oldMask oldRows known drawn label pile parts waitX waitY waitSide waits sign signs many) a1 h) gX6_cell_X6_isMask rfl kX6_isMask ⟨rfl, rfl⟩ ⟨Nat.le_of_ble_eq_true rfl, Nat.le_of_ble_eq_true rfl⟩ rfl (Nat.le_of_ble_eq_true rfl) dX6_cell_1 (fun r_1 _ h => ?_)
  try dsimp only at h
  refine v_if_eq C 25 dX6_cell_4 (by decide) (fun c_2 => ?_) (fun c_2 => ?_)
  · replace h := h.1 c_2
    refine v_bipush C (-2) dX6_cell_25 (by decide) ?_
    exact hret _ _ _ (-2) () h rfl dX6_cell_27
  · replace h := h.2 c_2
    refine v_iload_n C dX6_cell_7 rfl 2 rfl ?_
    refine v_iload_n C dX6_cell_8 rfl 3 rfl ?_
    refine v_callSi C (c_Md_isCell l G (mw G ad forms sizes items moved latest rows fresh oldMask oldRows known drawn label pile parts waitX waitY waitSide waits sign signs many) a2 a3 h) gX6_cell_X6_isCell rfl kX6_isCell ⟨rfl, rfl⟩ ⟨Nat.le_of_ble_eq_true rfl, Nat.le_of_ble_eq_true rfl⟩ rfl (Nat.le_of_ble_eq_true rfl) dX6_cell_9 (fun r_2 _ h => ?_)
    try dsimp only at h
    refine v_if_eq C 25 dX6_cell_12 (by decide) (fun c_1 => ?_) (fun c_1 => ?_)
    · replace h := h.1 c_1
      refine v_bipush C (-2) dX6_cell_25 (by decide) ?_
      exact hret _ _ _ (-2) () h rfl dX6_cell_27
    · replace h := h.2 c_1
      refine v_aload_n C dX6_cell_15 rfl 0 rfl ?_
      refine v_iload_n C dX6_cell_16 rfl 1 rfl ?_
      refine v_iload_n C dX6_cell_17 rfl 2 rfl ?_
      refine v_iload_n C dX6_cell_18 rfl 3 rfl ?_
      refine v_callVi C (c_Md_dark l G ad forms sizes items moved latest rows fresh oldMask oldRows known drawn label pile parts waitX waitY waitSide waits sign signs many a1 a2 a3 h) 0 rfl rfl gX6_cell_X6_dark rfl kX6_dark ⟨rfl, rfl⟩ ⟨Nat.le_of_ble_eq_true rfl, Nat.le_of_ble_eq_true rfl⟩ rfl (Nat.le_of_ble_eq_true rfl) dX6_cell_19 (fun r_3 _ h => ?_)
      try dsimp only at h
      refine v_goto C 27 dX6_cell_22 (by decide) ?_
      exact hret _ _ _ r_3 () h rfl dX6_cell_27
-- QuarterMasksModel.isBlock
def rmX6_isBlock : Room := { frames := 1, cells := 0, slots := 0, locals := 40 }
theorem kX6_isBlock : yX6_isBlock.cls = RX6 ∧ yX6_isBlock.cls ≠ "java/lang/invoke/MethodHandle" ∧ yX6_isBlock.cls ≠ "java/lang/invoke/VarHandle" ∧ (parseMethodDescriptor yX6_isBlock.desc).map (fun d => d.parameters.length) = some 4 := by decide +kernel
theorem mX6_isBlock_w1 : Cond.fieldLink RX6 22 "QuarterMasksModel" "rows" "[I" ∈ wsX6_isBlock := List.mem_of_getElem? (i := 1) rfl
theorem iX6_isBlock_6 : ∀ w ∈ wsX60, w ∈ wsX6_isBlock := fun w h => List.mem_cons_of_mem _ (List.mem_append_right _ h)
def wl_Md_isBlock_48 (rows : IA) (a1 : Int32) (a3 : Int32) (a4 : Int32) (Q : Int32 → Prop) (x5_1 : Int32) (x6_1 : Int32) : Nat → Int32 → Int32 → Prop
  | 0, _, _ => False
  | n + 1, x8_1, x7_1 => (a4 ≤ x8_1 → (narrow .boolean (.int x7_1) = .int x7_1 ∧ Q x7_1)) ∧ (¬ a4 ≤ x8_1 → ((x7_1 = 0 → (narrow .boolean (.int x7_1) = .int x7_1 ∧ Q x7_1)) ∧ (¬ x7_1 = 0 → (vp_in (((16 * a1) + a3) + x8_1) 64 ∧ (jn (fun (t_2 : Int32) => (wl_Md_isBlock_48 rows a1 a3 a4 Q x5_1 x6_1 n) (x8_1 + 1) t_2) (fun K_1 : Int32 → Prop => (((rows (((16 * a1) + a3) + x8_1).toNatClampNeg) &&& x5_1) = x6_1 → (K_1 1)) ∧ (¬ ((rows (((16 * a1) + a3) + x8_1).toNatClampNeg) &&& x5_1) = x6_1 → (K_1 0))))))))
def wj_Md_isBlock_43 (rows : IA) (a1 : Int32) (a3 : Int32) (a4 : Int32) (Q : Int32 → Prop) (x5_1 : Int32) (x6_1 : Int32) (t_1 : Int32) : Prop :=
  ∃ k_1 : Nat, wl_Md_isBlock_48 rows a1 a3 a4 Q x5_1 x6_1 k_1 1 t_1
def wp_Md_isBlock (rows : IA) (a1 : Int32) (a2 : Int32) (a3 : Int32) (a4 : Int32) (Q : Int32 → Prop) : Prop :=
  ∀ x5_1 : Int32, x5_1 = (jshl ((jshl 1 a4) - 1) a2) → (vp_in ((16 * a1) + a3) 64 ∧ (∀ x6_1 : Int32, x6_1 = ((rows ((16 * a1) + a3).toNatClampNeg) &&& x5_1) → (jn (wj_Md_isBlock_43 rows a1 a3 a4 Q x5_1 x6_1) (fun K_2 : Int32 → Prop => (x6_1 = 0 → (K_2 1)) ∧ (¬ x6_1 = 0 → ((x6_1 = x5_1 → (K_2 1)) ∧ (¬ x6_1 = x5_1 → (K_2 0))))))))
set_option maxHeartbeats 4000000 in
theorem c_Md_isBlock (l : Launch) (G : GG) (ad : Nat → Nat) (forms : IA) (sizes : IA) (items : IA) (moved : IA) (latest : Int32) (rows : IA) (fresh : IA) (oldMask : IA) (oldRows : IA) (known : Int32) (drawn : Int32) (label : IA) (pile : IA) (parts : Int32) (waitX : IA) (waitY : IA) (waitSide : IA) (waits : Int32) (sign : IA) (signs : Int32) (many : IA) (a1 : Int32) (a2 : Int32) (a3 : Int32) (a4 : Int32) {Q : Int32 → Prop} (h : wp_Md_isBlock rows a1 a2 a3 a4 Q) : qm_MI l yX6_isBlock wsX6_isBlock rmX6_isBlock G [.ref (ad 0), .int a1, .int a2, .int a3, .int a4] (mw G ad forms sizes items moved latest rows fresh oldMask oldRows known drawn label pile parts waitX waitY waitSide waits sign signs many) (fun (r : Int32) (_ : Unit) => Q r) (fun (_ : Unit) => mw G ad forms sizes items moved latest rows fresh oldMask oldRows known drawn label pile parts waitX waitY waitSide waits sign signs many) := by
  refine qm_mkZ (cc := cX6_isBlock) (maxL := 9) (by decide) rfl (Nat.le_of_ble_eq_true rfl) ?_
  intro X C hret
  replace C : qm_C G 9 X cX6_isBlock wsX6_isBlock RX6 := C
  refine v_lv (lv' := [(0, .ref (ad 0)), (1, .int a1), (2, .int a2), (3, .int a3), (4, .int a4)]) rfl ?_
  unfold wp_Md_isBlock at h
  refine v_iconst C 1 dX6_isBlock_0 (by decide) ?_
  refine v_iload C dX6_isBlock_1 4 rfl ?_
  refine v_ishl C dX6_isBlock_3 ?_
  refine v_iconst C 1 dX6_isBlock_4 (by decide) ?_
  refine v_isub C dX6_isBlock_5 ?_
  refine v_iload_n C dX6_isBlock_6 rfl 2 rfl ?_
  refine v_ishl C dX6_isBlock_7 ?_
  refine v_topi (fun x5_1 ex5_1 => ?_)
  replace h := h x5_1 ex5_1
  refine v_istore C [(5, .int x5_1), (0, .ref (ad 0)), (1, .int a1), (2, .int a2), (3, .int a3), (4, .int a4)] dX6_isBlock_8 (by decide) rfl ?_
  refine v_aload_n C dX6_isBlock_10 rfl 1 rfl ?_
  refine v_get C iX6_isBlock_6 0 rfl rfl 5 (by decide) mX6_isBlock_w1 rfl rfl dX6_isBlock_11 ?_
  refine v_bipush C 16 dX6_isBlock_14 (by decide) ?_
  refine v_iload_n C dX6_isBlock_16 rfl 2 rfl ?_
  refine v_imul C dX6_isBlock_17 ?_
  refine v_iload_n C dX6_isBlock_18 rfl 4 rfl ?_
  refine v_iadd C dX6_isBlock_19 ?_
  obtain ⟨hin_1, h⟩ := h
  refine v_iald C 5 rfl hin_1 dX6_isBlock_20 ?_
  refine v_iload C dX6_isBlock_21 0 rfl ?_
  refine v_iand C dX6_isBlock_23 ?_
  refine v_topi (fun x6_1 ex6_1 => ?_)
  replace h := h x6_1 ex6_1
  refine v_istore C [(6, .int x6_1), (5, .int x5_1), (0, .ref (ad 0)), (1, .int a1), (2, .int a2), (3, .int a3), (4, .int a4)] dX6_isBlock_24 (by decide) rfl ?_
  refine v_iload C dX6_isBlock_26 0 rfl ?_
  have hJ_2 : ∀ (t_1 : Int32), (wj_Md_isBlock_43 rows a1 a3 a4 Q x5_1 x6_1) t_1 → qm_V l G rmX6_isBlock 9 X (mw G ad forms sizes items moved latest rows fresh oldMask oldRows known drawn label pile parts waitX waitY waitSide waits sign signs many) [(6, .int x6_1), (5, .int x5_1), (0, .ref (ad 0)), (1, .int a1), (2, .int a2), (3, .int a3), (4, .int a4)] 43 [.int t_1] := by
    intro t_1 h
    unfold wj_Md_isBlock_43 at h
    refine v_istore C [(7, .int t_1), (6, .int x6_1), (5, .int x5_1), (0, .ref (ad 0)), (1, .int a1), (2, .int a2), (3, .int a3), (4, .int a4)] dX6_isBlock_43 (by decide) rfl ?_
    refine v_iconst C 1 dX6_isBlock_45 (by decide) ?_
    refine v_istore C [(8, .int 1), (7, .int t_1), (6, .int x6_1), (5, .int x5_1), (0, .ref (ad 0)), (1, .int a1), (2, .int a2), (3, .int a3), (4, .int a4)] dX6_isBlock_46 (by decide) rfl ?_
    have hl_1 : ∀ n_1 : Nat, ∀ (x8_1 : Int32) (x7_1 : Int32), wl_Md_isBlock_48 rows a1 a3 a4 Q x5_1 x6_1 n_1 x8_1 x7_1 → qm_V l G rmX6_isBlock 9 X (mw G ad forms sizes items moved latest rows fresh oldMask oldRows known drawn label pile parts waitX waitY waitSide waits sign signs many) [(8, .int x8_1), (7, .int x7_1), (6, .int x6_1), (5, .int x5_1), (0, .ref (ad 0)), (1, .int a1), (2, .int a2), (3, .int a3), (4, .int a4)] 48 [] := by
      intro n_1
      induction n_1 with
      | zero =>
        intro x8_1 x7_1 h
        exact False.elim h
      | succ n_1 ih_1 =>
        intro x8_1 x7_1 h
        rw [wl_Md_isBlock_48] at h
        refine v_iload C dX6_isBlock_48 0 rfl ?_
        refine v_iload C dX6_isBlock_50 8 rfl ?_
        refine v_icmp_ge C 95 dX6_isBlock_52 (by decide) (fun c_3 => ?_) (fun c_3 => ?_)
        · replace h := h.1 c_3
          refine v_iload C dX6_isBlock_95 1 rfl ?_
          exact hret _ _ _ x7_1 () h.2 h.1 rfl dX6_isBlock_97
        · replace h := h.2 c_3
          refine v_iload C dX6_isBlock_55 1 rfl ?_
          refine v_if_eq C 95 dX6_isBlock_57 (by decide) (fun c_2 => ?_) (fun c_2 => ?_)
          · replace h := h.1 c_2
            refine v_iload C dX6_isBlock_95 1 rfl ?_
            exact hret _ _ _ x7_1 () h.2 h.1 rfl dX6_isBlock_97
          · replace h := h.2 c_2
            refine v_aload_n C dX6_isBlock_60 rfl 4 rfl ?_
            refine v_get C iX6_isBlock_6 0 rfl rfl 5 (by decide) mX6_isBlock_w1 rfl rfl dX6_isBlock_61 ?_
            refine v_bipush C 16 dX6_isBlock_64 (by decide) ?_
            refine v_iload_n C dX6_isBlock_66 rfl 5 rfl ?_
            refine v_imul C dX6_isBlock_67 ?_
            refine v_iload_n C dX6_isBlock_68 rfl 7 rfl ?_
            refine v_iadd C dX6_isBlock_69 ?_
            refine v_iload C dX6_isBlock_70 0 rfl ?_
            refine v_iadd C dX6_isBlock_72 ?_
            obtain ⟨hin_2, h⟩ := h
            refine v_iald C 5 rfl hin_2 dX6_isBlock_73 ?_
            refine v_iload C dX6_isBlock_74 3 rfl ?_
            refine v_iand C dX6_isBlock_76 ?_
            refine v_iload C dX6_isBlock_77 2 rfl ?_
            have hJ_1 : ∀ (t_2 : Int32), (fun (t_2 : Int32) => (wl_Md_isBlock_48 rows a1 a3 a4 Q x5_1 x6_1 n_1) (x8_1 + 1) t_2) t_2 → qm_V l G rmX6_isBlock 9 X (mw G ad forms sizes items moved latest rows fresh oldMask oldRows known drawn label pile parts waitX waitY waitSide waits sign signs many) [(8, .int x8_1), (7, .int x7_1), (6, .int x6_1), (5, .int x5_1), (0, .ref (ad 0)), (1, .int a1), (2, .int a2), (3, .int a3), (4, .int a4)] 87 [.int t_2] := by
              intro t_2 h
              try dsimp only at h
              refine v_istore C [(7, .int t_2), (8, .int x8_1), (6, .int x6_1), (5, .int x5_1), (0, .ref (ad 0)), (1, .int a1), (2, .int a2), (3, .int a3), (4, .int a4)] dX6_isBlock_87 (by decide) rfl ?_
              refine v_iinc C (x8_1 + 1) 1 [(8, .int (x8_1 + 1)), (7, .int t_2), (6, .int x6_1), (5, .int x5_1), (0, .ref (ad 0)), (1, .int a1), (2, .int a2), (3, .int a3), (4, .int a4)] dX6_isBlock_89 rfl rfl (by decide) rfl ?_
              refine v_goto C 48 dX6_isBlock_92 (by decide) ?_
              exact ih_1 (x8_1 + 1) t_2 h
            replace h := jn_use h
            try dsimp only at h
            refine v_icmp_ne C 86 dX6_isBlock_79 (by decide) (fun c_1 => ?_) (fun c_1 => ?_)
            · replace h := h.2 c_1
              refine v_iconst C 0 dX6_isBlock_86 (by decide) ?_
              exact hJ_1 0 h
            · replace h := h.1 c_1
              refine v_iconst C 1 dX6_isBlock_82 (by decide) ?_
              refine v_goto C 87 dX6_isBlock_83 (by decide) ?_
              exact hJ_1 1 h
    obtain ⟨k_1, h⟩ := h
    exact hl_1 k_1 1 t_1 h
  replace h := jn_use h
  try dsimp only at h
  refine v_if_eq C 38 dX6_isBlock_28 (by decide) (fun c_5 => ?_) (fun c_5 => ?_)
  · replace h := h.1 c_5
    refine v_iconst C 1 dX6_isBlock_38 (by decide) ?_
    refine v_goto C 43 dX6_isBlock_39 (by decide) ?_
    exact hJ_2 1 h
  · replace h := h.2 c_5
    refine v_iload C dX6_isBlock_31 0 rfl ?_
    refine v_iload C dX6_isBlock_33 1 rfl ?_
    refine v_icmp_ne C 42 dX6_isBlock_35 (by decide) (fun c_4 => ?_) (fun c_4 => ?_)
    · replace h := h.2 c_4
      refine v_iconst C 0 dX6_isBlock_42 (by decide) ?_
      exact hJ_2 0 h
    · replace h := h.1 c_4
      refine v_iconst C 1 dX6_isBlock_38 (by decide) ?_
      refine v_goto C 43 dX6_isBlock_39 (by decide) ?_
      exact hJ_2 1 h
-- QuarterMasksModel.blockBy
def rmX6_blockBy : Room := { frames := 2, cells := 0, slots := 0, locals := 68 }
theorem kX6_blockBy : yX6_blockBy.cls = RX6 ∧ yX6_blockBy.cls ≠ "java/lang/invoke/MethodHandle" ∧ yX6_blockBy.cls ≠ "java/lang/invoke/VarHandle" ∧ (parseMethodDescriptor yX6_blockBy.desc).map (fun d => d.parameters.length) = some 4 := by decide +kernel
def wx_Md_blockBy_37 (a2 : Int32) (a3 : Int32) (a4 : Int32) (Q : Int32 → Prop) (x5_2 : Int32) : Prop :=
  (a4 = 0 → (¬ x5_2 = 0 ∧ (Q ((a2 / x5_2) * x5_2)))) ∧ (¬ a4 = 0 → ((a4 = 1 → (¬ x5_2 = 0 ∧ (Q ((a3 / x5_2) * x5_2)))) ∧ (¬ a4 = 1 → (Q x5_2))))
def wl_Md_blockBy_4 (rows : IA) (a1 : Int32) (a2 : Int32) (a3 : Int32) (Kx_1 : Int32 → Prop) : Nat → Int32 → Prop
  | 0, _ => False
  | n + 1, x5_1 => ¬ x5_1 = 0 ∧ (¬ x5_1 = 0 ∧ (wp_Md_isBlock rows a1 ((a2 / x5_1) * x5_1) ((a3 / x5_1) * x5_1) x5_1 (fun r_1 => (r_1 = 0 → (∀ x5_3 : Int32, x5_3 = (x5_1 / 2) → ((wl_Md_blockBy_4 rows a1 a2 a3 Kx_1 n) x5_3))) ∧ (¬ r_1 = 0 → (Kx_1 x5_1)))))
def wp_Md_blockBy (rows : IA) (a1 : Int32) (a2 : Int32) (a3 : Int32) (a4 : Int32) (Q : Int32 → Prop) : Prop :=
  ∃ k_1 : Nat, wl_Md_blockBy_4 rows a1 a2 a3 (wx_Md_blockBy_37 a2 a3 a4 Q) k_1 16
set_option maxHeartbeats 4000000 in
theorem c_Md_blockBy (l : Launch) (G : GG) (ad : Nat → Nat) (forms : IA) (sizes : IA) (items : IA) (moved : IA) (latest : Int32) (rows : IA) (fresh : IA) (oldMask : IA) (oldRows : IA) (known : Int32) (drawn : Int32) (label : IA) (pile : IA) (parts : Int32) (waitX : IA) (waitY : IA) (waitSide : IA) (waits : Int32) (sign : IA) (signs : Int32) (many : IA) (a1 : Int32) (a2 : Int32) (a3 : Int32) (a4 : Int32) {Q : Int32 → Prop} (h : wp_Md_blockBy rows a1 a2 a3 a4 Q) : qm_MI l yX6_blockBy wsX6_blockBy rmX6_blockBy G [.ref (ad 0), .int a1, .int a2, .int a3, .int a4] (mw G ad forms sizes items moved latest rows fresh oldMask oldRows known drawn label pile parts waitX waitY waitSide waits sign signs many) (fun (r : Int32) (_ : Unit) => Q r) (fun (_ : Unit) => mw G ad forms sizes items moved latest rows fresh oldMask oldRows known drawn label pile parts waitX waitY waitSide waits sign signs many) := by
  refine qm_mkI (cc := cX6_blockBy) (maxL := 6) (by decide) rfl (Nat.le_of_ble_eq_true rfl) ?_
  intro X C hret
  replace C : qm_C G 6 X cX6_blockBy wsX6_blockBy RX6 := C
  refine v_lv (lv' := [(0, .ref (ad 0)), (1, .int a1), (2, .int a2), (3, .int a3), (4, .int a4)]) rfl ?_
  unfold wp_Md_blockBy at h
  refine v_bipush C 16 dX6_blockBy_0 (by decide) ?_
  refine v_istore C [(5, .int 16), (0, .ref (ad 0)), (1, .int a1), (2, .int a2), (3, .int a3), (4, .int a4)] dX6_blockBy_2 (by decide) rfl ?_
  have hx_1 : ∀ (x5_2 : Int32), (wx_Md_blockBy_37 a2 a3 a4 Q) x5_2 → qm_V l G rmX6_blockBy 6 X (mw G ad forms sizes items moved latest rows fresh oldMask oldRows known drawn label pile parts waitX waitY waitSide waits sign signs many) [(5, .int x5_2), (0, .ref (ad 0)), (1, .int a1), (2, .int a2), (3, .int a3), (4, .int a4)] 37 [] := by
    intro x5_2 h
    unfold wx_Md_blockBy_37 at h
    refine v_iload C dX6_blockBy_37 5 rfl ?_
    refine v_if_ne C 52 dX6_blockBy_39 (by decide) (fun c_2 => ?_) (fun c_2 => ?_)
    · replace h := h.2 c_2
      refine v_iload C dX6_blockBy_52 5 rfl ?_
      refine v_iconst C 1 dX6_blockBy_54 (by decide) ?_
      refine v_icmp_ne C 68 dX6_blockBy_55 (by decide) (fun c_1 => ?_) (fun c_1 => ?_)
      · replace h := h.2 c_1
        refine v_iload C dX6_blockBy_68 0 rfl ?_
        exact hret _ _ _ x5_2 () h rfl dX6_blockBy_70
      · replace h := h.1 c_1
        refine v_iload_n C dX6_blockBy_58 rfl 4 rfl ?_
        refine v_iload C dX6_blockBy_59 0 rfl ?_
        obtain ⟨hz_1, h⟩ := h
        refine v_idiv C dX6_blockBy_61 hz_1 ?_
        refine v_iload C dX6_blockBy_62 0 rfl ?_
        refine v_imul C dX6_blockBy_64 ?_
        refine v_goto C 70 dX6_blockBy_65 (by decide) ?_
        exact hret _ _ _ ((a3 / x5_2) * x5_2) () h rfl dX6_blockBy_70
    · replace h := h.1 c_2
      refine v_iload_n C dX6_blockBy_42 rfl 3 rfl ?_
      refine v_iload C dX6_blockBy_43 0 rfl ?_
      obtain ⟨hz_2, h⟩ := h
      refine v_idiv C dX6_blockBy_45 hz_2 ?_
      refine v_iload C dX6_blockBy_46 0 rfl ?_
      refine v_imul C dX6_blockBy_48 ?_
      refine v_goto C 70 dX6_blockBy_49 (by decide) ?_
      exact hret _ _ _ ((a2 / x5_2) * x5_2) () h rfl dX6_blockBy_70
  have hl_1 : ∀ n_1 : Nat, ∀ (x5_1 : Int32), wl_Md_blockBy_4 rows a1 a2 a3 (wx_Md_blockBy_37 a2 a3 a4 Q) n_1 x5_1 → qm_V l G rmX6_blockBy 6 X (mw G ad forms sizes items moved latest rows fresh oldMask oldRows known drawn label pile parts waitX waitY waitSide waits sign signs many) [(5, .int x5_1), (0, .ref (ad 0)), (1, .int a1), (2, .int a2), (3, .int a3), (4, .int a4)] 4 [] := by
    intro n_1
    induction n_1 with
    | zero =>
      intro x5_1 h
      exact False.elim h
    | succ n_1 ih_1 =>
      intro x5_1 h
      rw [wl_Md_blockBy_4] at h
      refine v_aload_n C dX6_blockBy_4 rfl 1 rfl ?_
      refine v_iload_n C dX6_blockBy_5 rfl 2 rfl ?_
      refine v_iload_n C dX6_blockBy_6 rfl 3 rfl ?_
      refine v_iload C dX6_blockBy_7 0 rfl ?_
      obtain ⟨hz_3, h⟩ := h
      refine v_idiv C dX6_blockBy_9 hz_3 ?_
      refine v_iload C dX6_blockBy_10 0 rfl ?_
      refine v_imul C dX6_blockBy_12 ?_
      refine v_iload_n C dX6_blockBy_13 rfl 4 rfl ?_
      refine v_iload C dX6_blockBy_14 0 rfl ?_
      obtain ⟨hz_4, h⟩ := h
      refine v_idiv C dX6_blockBy_16 hz_4 ?_
      refine v_iload C dX6_blockBy_17 0 rfl ?_
      refine v_imul C dX6_blockBy_19 ?_
      refine v_iload C dX6_blockBy_20 0 rfl ?_
      refine v_callVi C (c_Md_isBlock l G ad forms sizes items moved latest rows fresh oldMask oldRows known drawn label pile parts waitX waitY waitSide waits sign signs many a1 ((a2 / x5_1) * x5_1) ((a3 / x5_1) * x5_1) x5_1 h) 0 rfl rfl gX6_blockBy_X6_isBlock rfl kX6_isBlock ⟨rfl, rfl⟩ ⟨Nat.le_of_ble_eq_true rfl, Nat.le_of_ble_eq_true rfl⟩ rfl (Nat.le_of_ble_eq_true rfl) dX6_blockBy_22 (fun r_1 _ h => ?_)
      try dsimp only at h
      refine v_if_ne C 37 dX6_blockBy_25 (by decide) (fun c_3 => ?_) (fun c_3 => ?_)
      · replace h := h.2 c_3
        exact hx_1 x5_1 h
      · replace h := h.1 c_3
        refine v_iload C dX6_blockBy_28 0 rfl ?_
        refine v_iconst C 2 dX6_blockBy_30 (by decide) ?_
        refine v_idiv C dX6_blockBy_31 (by decide) ?_
        refine v_topi (fun x5_3 ex5_3 => ?_)
        replace h := h x5_3 ex5_3
        refine v_istore C [(5, .int x5_3), (0, .ref (ad 0)), (1, .int a1), (2, .int a2), (3, .int a3), (4, .int a4)] dX6_blockBy_32 (by decide) rfl ?_
        refine v_goto C 4 dX6_blockBy_34 (by decide) ?_
        exact ih_1 x5_3 h
  obtain ⟨k_1, h⟩ := h
  exact hl_1 k_1 16 h
-- QuarterMasksModel.block
def rmX6_block : Room := { frames := 3, cells := 0, slots := 0, locals := 93 }
theorem kX6_block : yX6_block.cls = RX6 ∧ yX6_block.cls ≠ "java/lang/invoke/MethodHandle" ∧ yX6_block.cls ≠ "java/lang/invoke/VarHandle" ∧ (parseMethodDescriptor yX6_block.desc).map (fun d => d.parameters.length) = some 4 := by decide +kernel
theorem mX6_block_w1 : Cond.constantLong RX6 69 (2) ∈ wsX6_block := List.mem_of_getElem? (i := 1) rfl
def wp_Md_block (rows : IA) (a1 : Int32) (a2 : Int32) (a3 : Int32) (a4 : Int32) (Q : Int32 → Prop) : Prop :=
  wp_Md_isMask a1 (fun r_1 => (r_1 = 0 → (Q (-2))) ∧ (¬ r_1 = 0 → (wp_Md_isCell a2 a3 (fun r_2 => (r_2 = 0 → (Q (-2))) ∧ (¬ r_2 = 0 → (wp_Md_in (Int32.toInt64 a4) 0 2 (fun r_3 => (r_3 = 0 → (Q (-2))) ∧ (¬ r_3 = 0 → (wp_Md_blockBy rows a1 a2 a3 a4 (fun r_4 => Q r_4))))))))))
set_option maxHeartbeats 4000000 in
theorem c_Md_block (l : Launch) (G : GG) (ad : Nat → Nat) (forms : IA) (sizes : IA) (items : IA) (moved : IA) (latest : Int32) (rows : IA) (fresh : IA) (oldMask : IA) (oldRows : IA) (known : Int32) (drawn : Int32) (label : IA) (pile : IA) (parts : Int32) (waitX : IA) (waitY : IA) (waitSide : IA) (waits : Int32) (sign : IA) (signs : Int32) (many : IA) (a1 : Int32) (a2 : Int32) (a3 : Int32) (a4 : Int32) {Q : Int32 → Prop} (h : wp_Md_block rows a1 a2 a3 a4 Q) : qm_MI l yX6_block wsX6_block rmX6_block G [.ref (ad 0), .int a1, .int a2, .int a3, .int a4] (mw G ad forms sizes items moved latest rows fresh oldMask oldRows known drawn label pile parts waitX waitY waitSide waits sign signs many) (fun (r : Int32) (_ : Unit) => Q r) (fun (_ : Unit) => mw G ad forms sizes items moved latest rows fresh oldMask oldRows known drawn label pile parts waitX waitY waitSide waits sign signs many) := by
  refine qm_mkI (cc := cX6_block) (maxL := 5) (by decide) rfl (Nat.le_of_ble_eq_true rfl) ?_
  intro X C hret
  replace C : qm_C G 5 X cX6_block wsX6_block RX6 := C
  refine v_lv (lv' := [(0, .ref (ad 0)), (1, .int a1), (2, .int a2), (3, .int a3), (4, .int a4)]) rfl ?_
  unfold wp_Md_block at h
  refine v_iload_n C dX6_block_0 rfl 1 rfl ?_
  refine v_callSi C (c_Md_isMask l G (mw G ad forms sizes items moved latest rows fresh oldMask oldRows known drawn label pile parts waitX waitY waitSide waits sign signs many) a1 h) gX6_block_X6_isMask rfl kX6_isMask ⟨rfl, rfl⟩ ⟨Nat.le_of_ble_eq_true rfl, Nat.le_of_ble_eq_true rfl⟩ rfl (Nat.le_of_ble_eq_true rfl) dX6_block_1 (fun r_1 _ h => ?_)
  try dsimp only at h
  refine v_if_eq C 40 dX6_block_4 (by decide) (fun c_3 => ?_) (fun c_3 => ?_)
  · replace h := h.1 c_3
    refine v_bipush C (-2) dX6_block_40 (by decide) ?_
    exact hret _ _ _ (-2) () h rfl dX6_block_42
  · replace h := h.2 c_3
    refine v_iload_n C dX6_block_7 rfl 2 rfl ?_
    refine v_iload_n C dX6_block_8 rfl 3 rfl ?_
    refine v_callSi C (c_Md_isCell l G (mw G ad forms sizes items moved latest rows fresh oldMask oldRows known drawn label pile parts waitX waitY waitSide waits sign signs many) a2 a3 h) gX6_block_X6_isCell rfl kX6_isCell ⟨rfl, rfl⟩ ⟨Nat.le_of_ble_eq_true rfl, Nat.le_of_ble_eq_true rfl⟩ rfl (Nat.le_of_ble_eq_true rfl) dX6_block_9 (fun r_2 _ h => ?_)
    try dsimp only at h
    refine v_if_eq C 40 dX6_block_12 (by decide) (fun c_2 => ?_) (fun c_2 => ?_)
    · replace h := h.1 c_2
      refine v_bipush C (-2) dX6_block_40 (by decide) ?_
      exact hret _ _ _ (-2) () h rfl dX6_block_42
    · replace h := h.2 c_2
      refine v_iload C dX6_block_15 4 rfl ?_
      refine v_i2l C dX6_block_17 ?_
      refine v_lconst C 0 dX6_block_18 (by decide) ?_
      refine v_ldc2 C 2 mX6_block_w1 dX6_block_19 ?_
      refine v_callSi C (c_Md_in l G (mw G ad forms sizes items moved latest rows fresh oldMask oldRows known drawn label pile parts waitX waitY waitSide waits sign signs many) (Int32.toInt64 a4) 0 2 h) gX6_block_X6_in rfl kX6_in ⟨rfl, rfl⟩ ⟨Nat.le_of_ble_eq_true rfl, Nat.le_of_ble_eq_true rfl⟩ rfl (Nat.le_of_ble_eq_true rfl) dX6_block_22 (fun r_3 _ h => ?_)
      try dsimp only at h
      refine v_if_eq C 40 dX6_block_25 (by decide) (fun c_1 => ?_) (fun c_1 => ?_)
      · replace h := h.1 c_1
        refine v_bipush C (-2) dX6_block_40 (by decide) ?_
        exact hret _ _ _ (-2) () h rfl dX6_block_42
      · replace h := h.2 c_1
        refine v_aload_n C dX6_block_28 rfl 0 rfl ?_
        refine v_iload_n C dX6_block_29 rfl 1 rfl ?_
        refine v_iload_n C dX6_block_30 rfl 2 rfl ?_
        refine v_iload_n C dX6_block_31 rfl 3 rfl ?_
        refine v_iload C dX6_block_32 4 rfl ?_
        refine v_callVi C (c_Md_blockBy l G ad forms sizes items moved latest rows fresh oldMask oldRows known drawn label pile parts waitX waitY waitSide waits sign signs many a1 a2 a3 a4 h) 0 rfl rfl gX6_block_X6_blockBy rfl kX6_blockBy ⟨rfl, rfl⟩ ⟨Nat.le_of_ble_eq_true rfl, Nat.le_of_ble_eq_true rfl⟩ rfl (Nat.le_of_ble_eq_true rfl) dX6_block_34 (fun r_4 _ h => ?_)
        try dsimp only at h
        refine v_goto C 42 dX6_block_37 (by decide) ?_
        exact hret _ _ _ r_4 () h rfl dX6_block_42
-- QuarterMasksModel.shows
def rmX6_shows : Room := { frames := 4, cells := 0, slots := 0, locals := 109 }
theorem kX6_shows : yX6_shows.cls = RX6 ∧ yX6_shows.cls ≠ "java/lang/invoke/MethodHandle" ∧ yX6_shows.cls ≠ "java/lang/invoke/VarHandle" ∧ (parseMethodDescriptor yX6_shows.desc).map (fun d => d.parameters.length) = some 1 := by decide +kernel
theorem mX6_shows_w1 : Cond.fieldLink RX6 174 "QuarterMasksModel" "signs" "I" ∈ wsX6_shows := List.mem_of_getElem? (i := 1) rfl
theorem iX6_shows_6 : ∀ w ∈ wsX60, w ∈ wsX6_shows := fun w h => List.mem_cons_of_mem _ (List.mem_append_right _ h)
theorem mX6_shows_w2 : Cond.fieldLink RX6 52 "QuarterMasksModel" "many" "[I" ∈ wsX6_shows := List.mem_of_getElem? (i := 2) rfl
theorem mX6_shows_w3 : Cond.fieldLink RX6 154 "QuarterMasksModel" "waits" "I" ∈ wsX6_shows := List.mem_of_getElem? (i := 3) rfl
theorem mX6_shows_w4 : Cond.fieldLink RX6 40 "QuarterMasksModel" "waitX" "[I" ∈ wsX6_shows := List.mem_of_getElem? (i := 4) rfl
theorem mX6_shows_w5 : Cond.fieldLink RX6 43 "QuarterMasksModel" "waitY" "[I" ∈ wsX6_shows := List.mem_of_getElem? (i := 5) rfl
theorem mX6_shows_w6 : Cond.fieldLink RX6 46 "QuarterMasksModel" "waitSide" "[I" ∈ wsX6_shows := List.mem_of_getElem? (i := 6) rfl
theorem mX6_shows_w7 : Cond.fieldLink RX6 49 "QuarterMasksModel" "sign" "[I" ∈ wsX6_shows := List.mem_of_getElem? (i := 7) rfl
def wj_Md_shows_241 (Kh_1 : Int32 → IA → IA → IA → Int32 → IA → Int32 → IA → Prop) (x2_4 : Int32) (f_sign_1 : IA) (v_signs_1 : Int32) (f_many_4 : IA) (waitX_2 : IA) (waitY_2 : IA) (waitSide_2 : IA) (waits_2 : Int32) : Prop :=
  Kh_1 x2_4 waitX_2 waitY_2 waitSide_2 waits_2 f_sign_1 v_signs_1 f_many_4
def wj_Md_shows_227 (waitX_1 : IA) (waitY_1 : IA) (waitSide_1 : IA) (Kh_1 : Int32 → IA → IA → IA → Int32 → IA → Int32 → IA → Prop) (v_waits_1 : Int32) (x2_4 : Int32) (x3_1 : Int32) (x4_1 : Int32) (r_1 : Int32) (f_sign_1 : IA) (v_signs_1 : Int32) (f_many_3 : IA) (t_5 : Int32) : Prop :=
  vp_in 3 4 ∧ (∀ f_many_4 : IA, f_many_4 = upd f_many_3 (3 : Int32).toNatClampNeg t_5 → (jn (wj_Md_shows_241 Kh_1 x2_4 f_sign_1 v_signs_1 f_many_4) (fun K_1 : IA → IA → IA → Int32 → Prop => (r_1 = 0 → (wp_Md_quarters waitX_1 waitY_1 waitSide_1 v_waits_1 x2_4 x3_1 x4_1 (fun m_waitX_2 m_waitY_2 m_waitSide_2 m_waits_2 => K_1 m_waitX_2 m_waitY_2 m_waitSide_2 m_waits_2))) ∧ (¬ r_1 = 0 → (K_1 waitX_1 waitY_1 waitSide_1 v_waits_1)))))
def wj_Md_shows_192 (waitX_1 : IA) (waitY_1 : IA) (waitSide_1 : IA) (Kh_1 : Int32 → IA → IA → IA → Int32 → IA → Int32 → IA → Prop) (v_waits_1 : Int32) (x2_4 : Int32) (x3_1 : Int32) (x4_1 : Int32) (r_1 : Int32) (f_sign_1 : IA) (v_signs_1 : Int32) (f_many_2 : IA) (t_4 : Int32) : Prop :=
  vp_in 2 4 ∧ (∀ f_many_3 : IA, f_many_3 = upd f_many_2 (2 : Int32).toNatClampNeg ((f_many_2 (2 : Int32).toNatClampNeg) + t_4) → (jn (wj_Md_shows_227 waitX_1 waitY_1 waitSide_1 Kh_1 v_waits_1 x2_4 x3_1 x4_1 r_1 f_sign_1 v_signs_1 f_many_3) (fun K_2 : Int32 → Prop => (r_1 = 0 → (wp_Md_deepOf x4_1 (fun r_2 => vp_in 3 4 ∧ (wp_Md_greater r_2 (f_many_3 (3 : Int32).toNatClampNeg) (fun r_3 => K_2 r_3))))) ∧ (¬ r_1 = 0 → (vp_in 3 4 ∧ (K_2 (f_many_3 (3 : Int32).toNatClampNeg)))))))
def wj_Md_shows_173 (waitX_1 : IA) (waitY_1 : IA) (waitSide_1 : IA) (Kh_1 : Int32 → IA → IA → IA → Int32 → IA → Int32 → IA → Prop) (v_waits_1 : Int32) (x2_4 : Int32) (x3_1 : Int32) (x4_1 : Int32) (r_1 : Int32) (f_sign_1 : IA) (v_signs_1 : Int32) (f_many_1 : IA) (t_3 : Int32) : Prop :=
  vp_in 1 4 ∧ (∀ f_many_2 : IA, f_many_2 = upd f_many_1 (1 : Int32).toNatClampNeg ((f_many_1 (1 : Int32).toNatClampNeg) + t_3) → (vp_in 2 4 ∧ (jn (wj_Md_shows_192 waitX_1 waitY_1 waitSide_1 Kh_1 v_waits_1 x2_4 x3_1 x4_1 r_1 f_sign_1 v_signs_1 f_many_2) (fun K_3 : Int32 → Prop => (r_1 = 0 → (K_3 1)) ∧ (¬ r_1 = 0 → (K_3 0))))))
def wj_Md_shows_153 (waitX_1 : IA) (waitY_1 : IA) (waitSide_1 : IA) (many_3 : IA) (Kh_1 : Int32 → IA → IA → IA → Int32 → IA → Int32 → IA → Prop) (v_waits_1 : Int32) (x2_4 : Int32) (x3_1 : Int32) (x4_1 : Int32) (r_1 : Int32) (t_1 : Int32) (f_sign_1 : IA) (v_signs_1 : Int32) (t_2 : Int32) : Prop :=
  vp_in 0 4 ∧ (∀ f_many_1 : IA, f_many_1 = upd many_3 (0 : Int32).toNatClampNeg ((many_3 (0 : Int32).toNatClampNeg) + t_2) → (vp_in 1 4 ∧ (jn (wj_Md_shows_173 waitX_1 waitY_1 waitSide_1 Kh_1 v_waits_1 x2_4 x3_1 x4_1 r_1 f_sign_1 v_signs_1 f_many_1) (fun K_4 : Int32 → Prop => (t_1 = 1 → (K_4 1)) ∧ (¬ t_1 = 1 → (K_4 0))))))
def wj_Md_shows_113 (waitX_1 : IA) (waitY_1 : IA) (waitSide_1 : IA) (sign_1 : IA) (signs_1 : Int32) (many_3 : IA) (Kh_1 : Int32 → IA → IA → IA → Int32 → IA → Int32 → IA → Prop) (v_waits_1 : Int32) (x2_4 : Int32) (x3_1 : Int32) (x4_1 : Int32) (r_1 : Int32) (t_1 : Int32) : Prop :=
  vp_in signs_1 341 ∧ (∀ f_sign_1 : IA, f_sign_1 = upd sign_1 signs_1.toNatClampNeg t_1 → (∀ v_signs_1 : Int32, v_signs_1 = (signs_1 + 1) → (vp_in 0 4 ∧ (jn (wj_Md_shows_153 waitX_1 waitY_1 waitSide_1 many_3 Kh_1 v_waits_1 x2_4 x3_1 x4_1 r_1 t_1 f_sign_1 v_signs_1) (fun K_5 : Int32 → Prop => (r_1 = 0 → (K_5 0)) ∧ (¬ r_1 = 0 → (K_5 1)))))))
def wl_Md_shows_38 (rows : IA) (a1 : Int32) (Q : IA → IA → IA → Int32 → IA → Int32 → IA → Prop) : Nat → Int32 → IA → IA → IA → Int32 → IA → Int32 → IA → Prop
  | 0, _, _, _, _, _, _, _, _ => False
  | n + 1, x2_3, waitX_1, waitY_1, waitSide_1, waits_1, sign_1, signs_1, many_3 => (waits_1 ≤ 0 → (Q waitX_1 waitY_1 waitSide_1 waits_1 sign_1 signs_1 many_3)) ∧ (¬ waits_1 ≤ 0 → (∀ v_waits_1 : Int32, v_waits_1 = (waits_1 - 1) → (vp_in v_waits_1 16 ∧ (∀ x2_4 : Int32, x2_4 = (waitX_1 v_waits_1.toNatClampNeg) → (vp_in v_waits_1 16 ∧ (∀ x3_1 : Int32, x3_1 = (waitY_1 v_waits_1.toNatClampNeg) → (vp_in v_waits_1 16 ∧ (∀ x4_1 : Int32, x4_1 = (waitSide_1 v_waits_1.toNatClampNeg) → (wp_Md_isBlock rows a1 x2_4 x3_1 x4_1 (fun r_1 => jn (wj_Md_shows_113 waitX_1 waitY_1 waitSide_1 sign_1 signs_1 many_3 (wl_Md_shows_38 rows a1 Q n) v_waits_1 x2_4 x3_1 x4_1 r_1) (fun K_6 : Int32 → Prop => (r_1 = 0 → (K_6 2)) ∧ (¬ r_1 = 0 → (wp_Md_dark rows a1 x2_4 x3_1 (fun r_4 => K_6 r_4))))))))))))))
def wx_Md_shows_25 (rows : IA) (waitX : IA) (waitY : IA) (waitSide : IA) (sign : IA) (a1 : Int32) (Q : IA → IA → IA → Int32 → IA → Int32 → IA → Prop) (x2_2 : Int32) (many_2 : IA) : Prop :=
  wp_Md_later waitX waitY waitSide 0 0 0 16 (fun m_waitX_1 m_waitY_1 m_waitSide_1 m_waits_1 => ∃ k_1 : Nat, wl_Md_shows_38 rows a1 Q k_1 x2_2 m_waitX_1 m_waitY_1 m_waitSide_1 m_waits_1 sign 0 many_2)
def wl_Md_shows_7 (Kx_1 : Int32 → IA → Prop) : Nat → Int32 → IA → Prop
  | 0, _, _ => False
  | n + 1, x2_1, many_1 => (4 ≤ x2_1 → (Kx_1 x2_1 many_1)) ∧ (¬ 4 ≤ x2_1 → (vp_in x2_1 4 ∧ (∀ f_many_5 : IA, f_many_5 = upd many_1 x2_1.toNatClampNeg 0 → ((wl_Md_shows_7 Kx_1 n) (x2_1 + 1) f_many_5))))
def wp_Md_shows (rows : IA) (waitX : IA) (waitY : IA) (waitSide : IA) (sign : IA) (many : IA) (a1 : Int32) (Q : IA → IA → IA → Int32 → IA → Int32 → IA → Prop) : Prop :=
  ∃ k_2 : Nat, wl_Md_shows_7 (wx_Md_shows_25 rows waitX waitY waitSide sign a1 Q) k_2 0 many
set_option maxHeartbeats 4000000 in
theorem c_Md_shows (l : Launch) (G : GG) (ad : Nat → Nat) (forms : IA) (sizes : IA) (items : IA) (moved : IA) (latest : Int32) (rows : IA) (fresh : IA) (oldMask : IA) (oldRows : IA) (known : Int32) (drawn : Int32) (label : IA) (pile : IA) (parts : Int32) (waitX : IA) (waitY : IA) (waitSide : IA) (waits : Int32) (sign : IA) (signs : Int32) (many : IA) (a1 : Int32) {Q : IA → IA → IA → Int32 → IA → Int32 → IA → Prop} (h : wp_Md_shows rows waitX waitY waitSide sign many a1 Q) : qm_MV l yX6_shows wsX6_shows rmX6_shows G [.ref (ad 0), .int a1] (mw G ad forms sizes items moved latest rows fresh oldMask oldRows known drawn label pile parts waitX waitY waitSide waits sign signs many) (fun (u : IA × IA × IA × Int32 × IA × Int32 × IA) => Q u.1 u.2.1 u.2.2.1 u.2.2.2.1 u.2.2.2.2.1 u.2.2.2.2.2.1 u.2.2.2.2.2.2) (fun (u : IA × IA × IA × Int32 × IA × Int32 × IA) => mw G ad forms sizes items moved latest rows fresh oldMask oldRows known drawn label pile parts u.1 u.2.1 u.2.2.1 u.2.2.2.1 u.2.2.2.2.1 u.2.2.2.2.2.1 u.2.2.2.2.2.2) := by
  refine qm_mkV (cc := cX6_shows) (maxL := 7) (by decide) rfl (Nat.le_of_ble_eq_true rfl) ?_
  intro X C hret
  replace C : qm_C G 7 X cX6_shows wsX6_shows RX6 := C
  refine v_lv (lv' := [(0, .ref (ad 0)), (1, .int a1)]) rfl ?_
  unfold wp_Md_shows at h
  refine v_aload_n C dX6_shows_0 rfl 0 rfl ?_
  refine v_iconst C 0 dX6_shows_1 (by decide) ?_
  refine v_put C iX6_shows_6 tyX6_ok nmX6 0 rfl rfl 19 (by decide) mX6_shows_w1 rfl rfl rfl rfl rfl (Nat.le_of_ble_eq_true rfl) (ws' := mw G ad forms sizes items moved latest rows fresh oldMask oldRows known drawn label pile parts waitX waitY waitSide waits sign 0 many) rfl dX6_shows_2 ?_
  refine v_iconst C 0 dX6_shows_5 (by decide) ?_
  refine v_istore_n C [(2, .int 0), (0, .ref (ad 0)), (1, .int a1)] dX6_shows_6 rfl (by decide) rfl ?_
  have hx_1 : ∀ (x2_2 : Int32) (many_2 : IA), (wx_Md_shows_25 rows waitX waitY waitSide sign a1 Q) x2_2 many_2 → qm_V l G rmX6_shows 7 X (mw G ad forms sizes items moved latest rows fresh oldMask oldRows known drawn label pile parts waitX waitY waitSide waits sign 0 many_2) [(2, .int x2_2), (0, .ref (ad 0)), (1, .int a1)] 25 [] := by
    intro x2_2 many_2 h
    unfold wx_Md_shows_25 at h
    refine v_aload_n C dX6_shows_25 rfl 1 rfl ?_
    refine v_iconst C 0 dX6_shows_26 (by decide) ?_
    refine v_put C iX6_shows_6 tyX6_ok nmX6 0 rfl rfl 17 (by decide) mX6_shows_w3 rfl rfl rfl rfl rfl (Nat.le_of_ble_eq_true rfl) (ws' := mw G ad forms sizes items moved latest rows fresh oldMask oldRows known drawn label pile parts waitX waitY waitSide 0 sign 0 many_2) rfl dX6_shows_27 ?_
    refine v_aload_n C dX6_shows_30 rfl 1 rfl ?_
    refine v_iconst C 0 dX6_shows_31 (by decide) ?_
    refine v_iconst C 0 dX6_shows_32 (by decide) ?_
    refine v_bipush C 16 dX6_shows_33 (by decide) ?_
    refine v_callVv C (c_Md_later l G ad forms sizes items moved latest rows fresh oldMask oldRows known drawn label pile parts waitX waitY waitSide 0 sign 0 many_2 0 0 16 h) 0 rfl rfl gX6_shows_X6_later rfl kX6_later ⟨rfl, rfl⟩ ⟨Nat.le_of_ble_eq_true rfl, Nat.le_of_ble_eq_true rfl⟩ rfl (Nat.le_of_ble_eq_true rfl) dX6_shows_35 (fun u h => ?_)
    obtain ⟨m_waitX_1, m_waitY_1, m_waitSide_1, m_waits_1⟩ := u
    try dsimp only at h
    refine v_world (ws' := mw G ad forms sizes items moved latest rows fresh oldMask oldRows known drawn label pile parts m_waitX_1 m_waitY_1 m_waitSide_1 m_waits_1 sign 0 many_2) rfl ?_
    have hl_1 : ∀ n_1 : Nat, ∀ (x2_3 : Int32) (waitX_1 : IA) (waitY_1 : IA) (waitSide_1 : IA) (waits_1 : Int32) (sign_1 : IA) (signs_1 : Int32) (many_3 : IA), wl_Md_shows_38 rows a1 Q n_1 x2_3 waitX_1 waitY_1 waitSide_1 waits_1 sign_1 signs_1 many_3 → qm_V l G rmX6_shows 7 X (mw G ad forms sizes items moved latest rows fresh oldMask oldRows known drawn label pile parts waitX_1 waitY_1 waitSide_1 waits_1 sign_1 signs_1 many_3) [(2, .int x2_3), (0, .ref (ad 0)), (1, .int a1)] 38 [] := by
      intro n_1
      induction n_1 with
      | zero =>
        intro x2_3 waitX_1 waitY_1 waitSide_1 waits_1 sign_1 signs_1 many_3 h
        exact False.elim h
      | succ n_1 ih_1 =>
        intro x2_3 waitX_1 waitY_1 waitSide_1 waits_1 sign_1 signs_1 many_3 h
        rw [wl_Md_shows_38] at h
        refine v_aload_n C dX6_shows_38 rfl 1 rfl ?_
        refine v_get C iX6_shows_6 0 rfl rfl 17 (by decide) mX6_shows_w3 rfl rfl dX6_shows_39 ?_
        refine v_if_le C 244 dX6_shows_42 (by decide) (fun c_7 => ?_) (fun c_7 => ?_)
        · replace h := h.1 c_7
          exact hret _ _ _ (waitX_1, waitY_1, waitSide_1, waits_1, sign_1, signs_1, many_3) h rfl dX6_shows_244
        · replace h := h.2 c_7
          refine v_aload_n C dX6_shows_45 rfl 1 rfl ?_
          refine v_dup C dX6_shows_46 rfl ?_
          refine v_get C iX6_shows_6 0 rfl rfl 17 (by decide) mX6_shows_w3 rfl rfl dX6_shows_47 ?_
          refine v_iconst C 1 dX6_shows_50 (by decide) ?_
          refine v_isub C dX6_shows_51 ?_
          refine v_topi (fun v_waits_1 ev_waits_1 => ?_)
          replace h := h v_waits_1 ev_waits_1
          refine v_put C iX6_shows_6 tyX6_ok nmX6 0 rfl rfl 17 (by decide) mX6_shows_w3 rfl rfl rfl rfl rfl (Nat.le_of_ble_eq_true rfl) (ws' := mw G ad forms sizes items moved latest rows fresh oldMask oldRows known drawn label pile parts waitX_1 waitY_1 waitSide_1 v_waits_1 sign_1 signs_1 many_3) rfl dX6_shows_52 ?_
          refine v_aload_n C dX6_shows_55 rfl 1 rfl ?_
          refine v_get C iX6_shows_6 0 rfl rfl 14 (by decide) mX6_shows_w4 rfl rfl dX6_shows_56 ?_
          refine v_aload_n C dX6_shows_59 rfl 1 rfl ?_
          refine v_get C iX6_shows_6 0 rfl rfl 17 (by decide) mX6_shows_w3 rfl rfl dX6_shows_60 ?_
          obtain ⟨hin_1, h⟩ := h
          refine v_iald C 11 rfl hin_1 dX6_shows_63 ?_
          refine v_topi (fun x2_4 ex2_4 => ?_)
          replace h := h x2_4 ex2_4
          refine v_istore_n C [(2, .int x2_4), (0, .ref (ad 0)), (1, .int a1)] dX6_shows_64 rfl (by decide) rfl ?_
          refine v_aload_n C dX6_shows_65 rfl 1 rfl ?_
          refine v_get C iX6_shows_6 0 rfl rfl 15 (by decide) mX6_shows_w5 rfl rfl dX6_shows_66 ?_
          refine v_aload_n C dX6_shows_69 rfl 1 rfl ?_
          refine v_get C iX6_shows_6 0 rfl rfl 17 (by decide) mX6_shows_w3 rfl rfl dX6_shows_70 ?_
          obtain ⟨hin_2, h⟩ := h
          refine v_iald C 12 rfl hin_2 dX6_shows_73 ?_
          refine v_topi (fun x3_1 ex3_1 => ?_)
          replace h := h x3_1 ex3_1
          refine v_istore_n C [(3, .int x3_1), (2, .int x2_4), (0, .ref (ad 0)), (1, .int a1)] dX6_shows_74 rfl (by decide) rfl ?_
          refine v_aload_n C dX6_shows_75 rfl 2 rfl ?_
          refine v_get C iX6_shows_6 0 rfl rfl 16 (by decide) mX6_shows_w6 rfl rfl dX6_shows_76 ?_
          refine v_aload_n C dX6_shows_79 rfl 2 rfl ?_
          refine v_get C iX6_shows_6 0 rfl rfl 17 (by decide) mX6_shows_w3 rfl rfl dX6_shows_80 ?_
          obtain ⟨hin_3, h⟩ := h
          refine v_iald C 13 rfl hin_3 dX6_shows_83 ?_
          refine v_topi (fun x4_1 ex4_1 => ?_)
          replace h := h x4_1 ex4_1
          refine v_istore C [(4, .int x4_1), (3, .int x3_1), (2, .int x2_4), (0, .ref (ad 0)), (1, .int a1)] dX6_shows_84 (by decide) rfl ?_
          refine v_aload_n C dX6_shows_86 rfl 3 rfl ?_
          refine v_iload_n C dX6_shows_87 rfl 4 rfl ?_
          refine v_iload_n C dX6_shows_88 rfl 2 rfl ?_
          refine v_iload_n C dX6_shows_89 rfl 1 rfl ?_
          refine v_iload C dX6_shows_90 0 rfl ?_
          refine v_callVi C (c_Md_isBlock l G ad forms sizes items moved latest rows fresh oldMask oldRows known drawn label pile parts waitX_1 waitY_1 waitSide_1 v_waits_1 sign_1 signs_1 many_3 a1 x2_4 x3_1 x4_1 h) 0 rfl rfl gX6_shows_X6_isBlock rfl kX6_isBlock ⟨rfl, rfl⟩ ⟨Nat.le_of_ble_eq_true rfl, Nat.le_of_ble_eq_true rfl⟩ rfl (Nat.le_of_ble_eq_true rfl) dX6_shows_92 (fun r_1 _ h => ?_)
          try dsimp only at h
          refine v_istore C [(5, .int r_1), (4, .int x4_1), (3, .int x3_1), (2, .int x2_4), (0, .ref (ad 0)), (1, .int a1)] dX6_shows_95 (by decide) rfl ?_
          refine v_iload C dX6_shows_97 0 rfl ?_
          have hJ_6 : ∀ (t_1 : Int32), (wj_Md_shows_113 waitX_1 waitY_1 waitSide_1 sign_1 signs_1 many_3 (wl_Md_shows_38 rows a1 Q n_1) v_waits_1 x2_4 x3_1 x4_1 r_1) t_1 → qm_V l G rmX6_shows 7 X (mw G ad forms sizes items moved latest rows fresh oldMask oldRows known drawn label pile parts waitX_1 waitY_1 waitSide_1 v_waits_1 sign_1 signs_1 many_3) [(5, .int r_1), (4, .int x4_1), (3, .int x3_1), (2, .int x2_4), (0, .ref (ad 0)), (1, .int a1)] 113 [.int t_1] := by
            intro t_1 h
            unfold wj_Md_shows_113 at h
            refine v_istore C [(6, .int t_1), (5, .int r_1), (4, .int x4_1), (3, .int x3_1), (2, .int x2_4), (0, .ref (ad 0)), (1, .int a1)] dX6_shows_113 (by decide) rfl ?_
            refine v_aload_n C dX6_shows_115 rfl 5 rfl ?_
            refine v_get C iX6_shows_6 0 rfl rfl 18 (by decide) mX6_shows_w7 rfl rfl dX6_shows_116 ?_
            refine v_aload_n C dX6_shows_119 rfl 5 rfl ?_
            refine v_get C iX6_shows_6 0 rfl rfl 19 (by decide) mX6_shows_w1 rfl rfl dX6_shows_120 ?_
            refine v_iload C dX6_shows_123 0 rfl ?_
            obtain ⟨hin_4, h⟩ := h
            obtain ⟨f_sign_1, ef_sign_1⟩ : ∃ y : IA, y = upd sign_1 signs_1.toNatClampNeg t_1 := ⟨_, rfl⟩
            replace h := h f_sign_1 ef_sign_1
            refine v_iast C 14 rfl (ws' := mw G ad forms sizes items moved latest rows fresh oldMask oldRows known drawn label pile parts waitX_1 waitY_1 waitSide_1 v_waits_1 f_sign_1 signs_1 many_3) (by subst ef_sign_1; exact rfl) hin_4 dX6_shows_125 ?_
            refine v_aload_n C dX6_shows_126 rfl 5 rfl ?_
            refine v_dup C dX6_shows_127 rfl ?_
            refine v_get C iX6_shows_6 0 rfl rfl 19 (by decide) mX6_shows_w1 rfl rfl dX6_shows_128 ?_
            refine v_iconst C 1 dX6_shows_131 (by decide) ?_
            refine v_iadd C dX6_shows_132 ?_
            refine v_topi (fun v_signs_1 ev_signs_1 => ?_)
            replace h := h v_signs_1 ev_signs_1
            refine v_put C iX6_shows_6 tyX6_ok nmX6 0 rfl rfl 19 (by decide) mX6_shows_w1 rfl rfl rfl rfl rfl (Nat.le_of_ble_eq_true rfl) (ws' := mw G ad forms sizes items moved latest rows fresh oldMask oldRows known drawn label pile parts waitX_1 waitY_1 waitSide_1 v_waits_1 f_sign_1 v_signs_1 many_3) rfl dX6_shows_133 ?_
            refine v_aload_n C dX6_shows_136 rfl 5 rfl ?_
            refine v_get C iX6_shows_6 0 rfl rfl 20 (by decide) mX6_shows_w2 rfl rfl dX6_shows_137 ?_
            refine v_iconst C 0 dX6_shows_140 (by decide) ?_
            refine v_dup2 C dX6_shows_141 rfl rfl ?_
            obtain ⟨hin_5, h⟩ := h
            refine v_iald C 15 rfl hin_5 dX6_shows_142 ?_
            refine v_iload C dX6_shows_143 1 rfl ?_
            have hJ_5 : ∀ (t_2 : Int32), (wj_Md_shows_153 waitX_1 waitY_1 waitSide_1 many_3 (wl_Md_shows_38 rows a1 Q n_1) v_waits_1 x2_4 x3_1 x4_1 r_1 t_1 f_sign_1 v_signs_1) t_2 → qm_V l G rmX6_shows 7 X (mw G ad forms sizes items moved latest rows fresh oldMask oldRows known drawn label pile parts waitX_1 waitY_1 waitSide_1 v_waits_1 f_sign_1 v_signs_1 many_3) [(6, .int t_1), (5, .int r_1), (4, .int x4_1), (3, .int x3_1), (2, .int x2_4), (0, .ref (ad 0)), (1, .int a1)] 153 [.int t_2, .int (many_3 (0 : Int32).toNatClampNeg), .int 0, .ref (ad 15)] := by
              intro t_2 h
              unfold wj_Md_shows_153 at h
              refine v_iadd C dX6_shows_153 ?_
              obtain ⟨hin_6, h⟩ := h
              obtain ⟨f_many_1, ef_many_1⟩ : ∃ y : IA, y = upd many_3 (0 : Int32).toNatClampNeg ((many_3 (0 : Int32).toNatClampNeg) + t_2) := ⟨_, rfl⟩
              replace h := h f_many_1 ef_many_1
              refine v_iast C 15 rfl (ws' := mw G ad forms sizes items moved latest rows fresh oldMask oldRows known drawn label pile parts waitX_1 waitY_1 waitSide_1 v_waits_1 f_sign_1 v_signs_1 f_many_1) (by subst ef_many_1; exact rfl) hin_6 dX6_shows_154 ?_
              refine v_aload_n C dX6_shows_155 rfl 5 rfl ?_
              refine v_get C iX6_shows_6 0 rfl rfl 20 (by decide) mX6_shows_w2 rfl rfl dX6_shows_156 ?_
              refine v_iconst C 1 dX6_shows_159 (by decide) ?_
              refine v_dup2 C dX6_shows_160 rfl rfl ?_
              obtain ⟨hin_7, h⟩ := h
              refine v_iald C 15 rfl hin_7 dX6_shows_161 ?_
              refine v_iload C dX6_shows_162 0 rfl ?_
              refine v_iconst C 1 dX6_shows_164 (by decide) ?_
              have hJ_4 : ∀ (t_3 : Int32), (wj_Md_shows_173 waitX_1 waitY_1 waitSide_1 (wl_Md_shows_38 rows a1 Q n_1) v_waits_1 x2_4 x3_1 x4_1 r_1 f_sign_1 v_signs_1 f_many_1) t_3 → qm_V l G rmX6_shows 7 X (mw G ad forms sizes items moved latest rows fresh oldMask oldRows known drawn label pile parts waitX_1 waitY_1 waitSide_1 v_waits_1 f_sign_1 v_signs_1 f_many_1) [(6, .int t_1), (5, .int r_1), (4, .int x4_1), (3, .int x3_1), (2, .int x2_4), (0, .ref (ad 0)), (1, .int a1)] 173 [.int t_3, .int (f_many_1 (1 : Int32).toNatClampNeg), .int 1, .ref (ad 15)] := by
                intro t_3 h
                unfold wj_Md_shows_173 at h
                refine v_iadd C dX6_shows_173 ?_
                obtain ⟨hin_8, h⟩ := h
                obtain ⟨f_many_2, ef_many_2⟩ : ∃ y : IA, y = upd f_many_1 (1 : Int32).toNatClampNeg ((f_many_1 (1 : Int32).toNatClampNeg) + t_3) := ⟨_, rfl⟩
                replace h := h f_many_2 ef_many_2
                refine v_iast C 15 rfl (ws' := mw G ad forms sizes items moved latest rows fresh oldMask oldRows known drawn label pile parts waitX_1 waitY_1 waitSide_1 v_waits_1 f_sign_1 v_signs_1 f_many_2) (by subst ef_many_2; exact rfl) hin_8 dX6_shows_174 ?_
                refine v_aload_n C dX6_shows_175 rfl 5 rfl ?_
                refine v_get C iX6_shows_6 0 rfl rfl 20 (by decide) mX6_shows_w2 rfl rfl dX6_shows_176 ?_
                refine v_iconst C 2 dX6_shows_179 (by decide) ?_
                refine v_dup2 C dX6_shows_180 rfl rfl ?_
                obtain ⟨hin_9, h⟩ := h
                refine v_iald C 15 rfl hin_9 dX6_shows_181 ?_
                refine v_iload C dX6_shows_182 1 rfl ?_
                have hJ_3 : ∀ (t_4 : Int32), (wj_Md_shows_192 waitX_1 waitY_1 waitSide_1 (wl_Md_shows_38 rows a1 Q n_1) v_waits_1 x2_4 x3_1 x4_1 r_1 f_sign_1 v_signs_1 f_many_2) t_4 → qm_V l G rmX6_shows 7 X (mw G ad forms sizes items moved latest rows fresh oldMask oldRows known drawn label pile parts waitX_1 waitY_1 waitSide_1 v_waits_1 f_sign_1 v_signs_1 f_many_2) [(6, .int t_1), (5, .int r_1), (4, .int x4_1), (3, .int x3_1), (2, .int x2_4), (0, .ref (ad 0)), (1, .int a1)] 192 [.int t_4, .int (f_many_2 (2 : Int32).toNatClampNeg), .int 2, .ref (ad 15)] := by
                  intro t_4 h
                  unfold wj_Md_shows_192 at h
                  refine v_iadd C dX6_shows_192 ?_
                  obtain ⟨hin_10, h⟩ := h
                  obtain ⟨f_many_3, ef_many_3⟩ : ∃ y : IA, y = upd f_many_2 (2 : Int32).toNatClampNeg ((f_many_2 (2 : Int32).toNatClampNeg) + t_4) := ⟨_, rfl⟩
                  replace h := h f_many_3 ef_many_3
                  refine v_iast C 15 rfl (ws' := mw G ad forms sizes items moved latest rows fresh oldMask oldRows known drawn label pile parts waitX_1 waitY_1 waitSide_1 v_waits_1 f_sign_1 v_signs_1 f_many_3) (by subst ef_many_3; exact rfl) hin_10 dX6_shows_193 ?_
                  refine v_aload_n C dX6_shows_194 rfl 5 rfl ?_
                  refine v_get C iX6_shows_6 0 rfl rfl 20 (by decide) mX6_shows_w2 rfl rfl dX6_shows_195 ?_
                  refine v_iconst C 3 dX6_shows_198 (by decide) ?_
                  refine v_iload C dX6_shows_199 1 rfl ?_
                  have hJ_2 : ∀ (t_5 : Int32), (wj_Md_shows_227 waitX_1 waitY_1 waitSide_1 (wl_Md_shows_38 rows a1 Q n_1) v_waits_1 x2_4 x3_1 x4_1 r_1 f_sign_1 v_signs_1 f_many_3) t_5 → qm_V l G rmX6_shows 7 X (mw G ad forms sizes items moved latest rows fresh oldMask oldRows known drawn label pile parts waitX_1 waitY_1 waitSide_1 v_waits_1 f_sign_1 v_signs_1 f_many_3) [(6, .int t_1), (5, .int r_1), (4, .int x4_1), (3, .int x3_1), (2, .int x2_4), (0, .ref (ad 0)), (1, .int a1)] 227 [.int t_5, .int 3, .ref (ad 15)] := by
                    intro t_5 h
                    unfold wj_Md_shows_227 at h
                    obtain ⟨hin_11, h⟩ := h
                    obtain ⟨f_many_4, ef_many_4⟩ : ∃ y : IA, y = upd f_many_3 (3 : Int32).toNatClampNeg t_5 := ⟨_, rfl⟩
                    replace h := h f_many_4 ef_many_4
                    refine v_iast C 15 rfl (ws' := mw G ad forms sizes items moved latest rows fresh oldMask oldRows known drawn label pile parts waitX_1 waitY_1 waitSide_1 v_waits_1 f_sign_1 v_signs_1 f_many_4) (by subst ef_many_4; exact rfl) hin_11 dX6_shows_227 ?_
                    refine v_iload C dX6_shows_228 1 rfl ?_
                    have hJ_1 : ∀ (waitX_2 : IA) (waitY_2 : IA) (waitSide_2 : IA) (waits_2 : Int32), (wj_Md_shows_241 (wl_Md_shows_38 rows a1 Q n_1) x2_4 f_sign_1 v_signs_1 f_many_4) waitX_2 waitY_2 waitSide_2 waits_2 → qm_V l G rmX6_shows 7 X (mw G ad forms sizes items moved latest rows fresh oldMask oldRows known drawn label pile parts waitX_2 waitY_2 waitSide_2 waits_2 f_sign_1 v_signs_1 f_many_4) [(6, .int t_1), (5, .int r_1), (4, .int x4_1), (3, .int x3_1), (2, .int x2_4), (0, .ref (ad 0)), (1, .int a1)] 241 [] := by
                      intro waitX_2 waitY_2 waitSide_2 waits_2 h
                      unfold wj_Md_shows_241 at h
                      refine v_goto C 38 dX6_shows_241 (by decide) ?_
                      refine v_perm [4, 5, 6] rfl ?_
                      exact ih_1 x2_4 waitX_2 waitY_2 waitSide_2 waits_2 f_sign_1 v_signs_1 f_many_4 h
                    replace h := jn_use h
                    try dsimp only at h
                    refine v_if_ne C 241 dX6_shows_230 (by decide) (fun c_1 => ?_) (fun c_1 => ?_)
                    · replace h := h.2 c_1
                      exact hJ_1 waitX_1 waitY_1 waitSide_1 v_waits_1 h
                    · replace h := h.1 c_1
                      refine v_aload_n C dX6_shows_233 rfl 5 rfl ?_
                      refine v_iload_n C dX6_shows_234 rfl 4 rfl ?_
                      refine v_iload_n C dX6_shows_235 rfl 3 rfl ?_
                      refine v_iload C dX6_shows_236 2 rfl ?_
                      refine v_callVv C (c_Md_quarters l G ad forms sizes items moved latest rows fresh oldMask oldRows known drawn label pile parts waitX_1 waitY_1 waitSide_1 v_waits_1 f_sign_1 v_signs_1 f_many_4 x2_4 x3_1 x4_1 h) 0 rfl rfl gX6_shows_X6_quarters rfl kX6_quarters ⟨rfl, rfl⟩ ⟨Nat.le_of_ble_eq_true rfl, Nat.le_of_ble_eq_true rfl⟩ rfl (Nat.le_of_ble_eq_true rfl) dX6_shows_238 (fun u h => ?_)
                      obtain ⟨m_waitX_2, m_waitY_2, m_waitSide_2, m_waits_2⟩ := u
                      try dsimp only at h
                      refine v_world (ws' := mw G ad forms sizes items moved latest rows fresh oldMask oldRows known drawn label pile parts m_waitX_2 m_waitY_2 m_waitSide_2 m_waits_2 f_sign_1 v_signs_1 f_many_4) rfl ?_
                      exact hJ_1 m_waitX_2 m_waitY_2 m_waitSide_2 m_waits_2 h
                  replace h := jn_use h
                  try dsimp only at h
                  refine v_if_eq C 213 dX6_shows_201 (by decide) (fun c_2 => ?_) (fun c_2 => ?_)
                  · replace h := h.1 c_2
                    refine v_iload C dX6_shows_213 2 rfl ?_
                    refine v_callSi C (c_Md_deepOf l G (mw G ad forms sizes items moved latest rows fresh oldMask oldRows known drawn label pile parts waitX_1 waitY_1 waitSide_1 v_waits_1 f_sign_1 v_signs_1 f_many_3) x4_1 h) gX6_shows_X6_deepOf rfl kX6_deepOf ⟨rfl, rfl⟩ ⟨Nat.le_of_ble_eq_true rfl, Nat.le_of_ble_eq_true rfl⟩ rfl (Nat.le_of_ble_eq_true rfl) dX6_shows_215 (fun r_2 _ h => ?_)
                    try dsimp only at h
                    refine v_aload_n C dX6_shows_218 rfl 5 rfl ?_
                    refine v_get C iX6_shows_6 0 rfl rfl 20 (by decide) mX6_shows_w2 rfl rfl dX6_shows_219 ?_
                    refine v_iconst C 3 dX6_shows_222 (by decide) ?_
                    obtain ⟨hin_12, h⟩ := h
                    refine v_iald C 15 rfl hin_12 dX6_shows_223 ?_
                    refine v_callSi C (c_Md_greater l G (mw G ad forms sizes items moved latest rows fresh oldMask oldRows known drawn label pile parts waitX_1 waitY_1 waitSide_1 v_waits_1 f_sign_1 v_signs_1 f_many_3) r_2 (f_many_3 (3 : Int32).toNatClampNeg) h) gX6_shows_X6_greater rfl kX6_greater ⟨rfl, rfl⟩ ⟨Nat.le_of_ble_eq_true rfl, Nat.le_of_ble_eq_true rfl⟩ rfl (Nat.le_of_ble_eq_true rfl) dX6_shows_224 (fun r_3 _ h => ?_)
                    try dsimp only at h
                    exact hJ_2 r_3 h
                  · replace h := h.2 c_2
                    refine v_aload_n C dX6_shows_204 rfl 5 rfl ?_
                    refine v_get C iX6_shows_6 0 rfl rfl 20 (by decide) mX6_shows_w2 rfl rfl dX6_shows_205 ?_
                    refine v_iconst C 3 dX6_shows_208 (by decide) ?_
                    obtain ⟨hin_13, h⟩ := h
                    refine v_iald C 15 rfl hin_13 dX6_shows_209 ?_
                    refine v_goto C 227 dX6_shows_210 (by decide) ?_
                    exact hJ_2 (f_many_3 (3 : Int32).toNatClampNeg) h
                replace h := jn_use h
                try dsimp only at h
                refine v_if_eq C 191 dX6_shows_184 (by decide) (fun c_3 => ?_) (fun c_3 => ?_)
                · replace h := h.1 c_3
                  refine v_iconst C 1 dX6_shows_191 (by decide) ?_
                  exact hJ_3 1 h
                · replace h := h.2 c_3
                  refine v_iconst C 0 dX6_shows_187 (by decide) ?_
                  refine v_goto C 192 dX6_shows_188 (by decide) ?_
                  exact hJ_3 0 h
              replace h := jn_use h
              try dsimp only at h
              refine v_icmp_ne C 172 dX6_shows_165 (by decide) (fun c_4 => ?_) (fun c_4 => ?_)
              · replace h := h.2 c_4
                refine v_iconst C 0 dX6_shows_172 (by decide) ?_
                exact hJ_4 0 h
              · replace h := h.1 c_4
                refine v_iconst C 1 dX6_shows_168 (by decide) ?_
                refine v_goto C 173 dX6_shows_169 (by decide) ?_
                exact hJ_4 1 h
            replace h := jn_use h
            try dsimp only at h
            refine v_if_eq C 152 dX6_shows_145 (by decide) (fun c_5 => ?_) (fun c_5 => ?_)
            · replace h := h.1 c_5
              refine v_iconst C 0 dX6_shows_152 (by decide) ?_
              exact hJ_5 0 h
            · replace h := h.2 c_5
              refine v_iconst C 1 dX6_shows_148 (by decide) ?_
              refine v_goto C 153 dX6_shows_149 (by decide) ?_
              exact hJ_5 1 h
          replace h := jn_use h
          try dsimp only at h
          refine v_if_eq C 112 dX6_shows_99 (by decide) (fun c_6 => ?_) (fun c_6 => ?_)
          · replace h := h.1 c_6
            refine v_iconst C 2 dX6_shows_112 (by decide) ?_
            exact hJ_6 2 h
          · replace h := h.2 c_6
            refine v_aload_n C dX6_shows_102 rfl 4 rfl ?_
            refine v_iload_n C dX6_shows_103 rfl 5 rfl ?_
            refine v_iload_n C dX6_shows_104 rfl 3 rfl ?_
            refine v_iload_n C dX6_shows_105 rfl 2 rfl ?_
            refine v_callVi C (c_Md_dark l G ad forms sizes items moved latest rows fresh oldMask oldRows known drawn label pile parts waitX_1 waitY_1 waitSide_1 v_waits_1 sign_1 signs_1 many_3 a1 x2_4 x3_1 h) 0 rfl rfl gX6_shows_X6_dark rfl kX6_dark ⟨rfl, rfl⟩ ⟨Nat.le_of_ble_eq_true rfl, Nat.le_of_ble_eq_true rfl⟩ rfl (Nat.le_of_ble_eq_true rfl) dX6_shows_106 (fun r_4 _ h => ?_)
            try dsimp only at h
            refine v_goto C 113 dX6_shows_109 (by decide) ?_
            exact hJ_6 r_4 h
    obtain ⟨k_1, h⟩ := h
    exact hl_1 k_1 x2_2 m_waitX_1 m_waitY_1 m_waitSide_1 m_waits_1 sign 0 many_2 h
  have hl_2 : ∀ n_2 : Nat, ∀ (x2_1 : Int32) (many_1 : IA), wl_Md_shows_7 (wx_Md_shows_25 rows waitX waitY waitSide sign a1 Q) n_2 x2_1 many_1 → qm_V l G rmX6_shows 7 X (mw G ad forms sizes items moved latest rows fresh oldMask oldRows known drawn label pile parts waitX waitY waitSide waits sign 0 many_1) [(2, .int x2_1), (0, .ref (ad 0)), (1, .int a1)] 7 [] := by
    intro n_2
    induction n_2 with
    | zero =>
      intro x2_1 many_1 h
      exact False.elim h
    | succ n_2 ih_2 =>
      intro x2_1 many_1 h
      rw [wl_Md_shows_7] at h
      refine v_iload_n C dX6_shows_7 rfl 0 rfl ?_
      refine v_iconst C 4 dX6_shows_8 (by decide) ?_
      refine v_icmp_ge C 25 dX6_shows_9 (by decide) (fun c_8 => ?_) (fun c_8 => ?_)
      · replace h := h.1 c_8
        exact hx_1 x2_1 many_1 h
      · replace h := h.2 c_8
        refine v_aload_n C dX6_shows_12 rfl 1 rfl ?_
        refine v_get C iX6_shows_6 0 rfl rfl 20 (by decide) mX6_shows_w2 rfl rfl dX6_shows_13 ?_
        refine v_iload_n C dX6_shows_16 rfl 0 rfl ?_
        refine v_iconst C 0 dX6_shows_17 (by decide) ?_
        obtain ⟨hin_14, h⟩ := h
        obtain ⟨f_many_5, ef_many_5⟩ : ∃ y : IA, y = upd many_1 x2_1.toNatClampNeg 0 := ⟨_, rfl⟩
        replace h := h f_many_5 ef_many_5
        refine v_iast C 15 rfl (ws' := mw G ad forms sizes items moved latest rows fresh oldMask oldRows known drawn label pile parts waitX waitY waitSide waits sign 0 f_many_5) (by subst ef_many_5; exact rfl) hin_14 dX6_shows_18 ?_
        refine v_iinc C (x2_1 + 1) 0 [(2, .int (x2_1 + 1)), (0, .ref (ad 0)), (1, .int a1)] dX6_shows_19 rfl rfl (by decide) rfl ?_
        refine v_goto C 7 dX6_shows_22 (by decide) ?_
        exact ih_2 (x2_1 + 1) f_many_5 h
  obtain ⟨k_2, h⟩ := h
  exact hl_2 k_2 0 many h
-- QuarterMasksModel.blocksBy
def rmX6_blocksBy : Room := { frames := 5, cells := 0, slots := 0, locals := 135 }
theorem kX6_blocksBy : yX6_blocksBy.cls = RX6 ∧ yX6_blocksBy.cls ≠ "java/lang/invoke/MethodHandle" ∧ yX6_blocksBy.cls ≠ "java/lang/invoke/VarHandle" ∧ (parseMethodDescriptor yX6_blocksBy.desc).map (fun d => d.parameters.length) = some 2 := by decide +kernel
theorem mX6_blocksBy_w1 : Cond.fieldLink RX6 52 "QuarterMasksModel" "many" "[I" ∈ wsX6_blocksBy := List.mem_of_getElem? (i := 1) rfl
theorem iX6_blocksBy_6 : ∀ w ∈ wsX60, w ∈ wsX6_blocksBy := fun w h => List.mem_cons_of_mem _ (List.mem_append_right _ h)
def wp_Md_blocksBy (rows : IA) (waitX : IA) (waitY : IA) (waitSide : IA) (sign : IA) (many : IA) (a1 : Int32) (a2 : Int32) (Q : Int32 → IA → IA → IA → Int32 → IA → Int32 → IA → Prop) : Prop :=
  wp_Md_shows rows waitX waitY waitSide sign many a1 (fun m_waitX_1 m_waitY_1 m_waitSide_1 m_waits_1 m_sign_1 m_signs_1 m_many_1 => vp_in a2 4 ∧ (Q (m_many_1 a2.toNatClampNeg) m_waitX_1 m_waitY_1 m_waitSide_1 m_waits_1 m_sign_1 m_signs_1 m_many_1))
set_option maxHeartbeats 4000000 in
theorem c_Md_blocksBy (l : Launch) (G : GG) (ad : Nat → Nat) (forms : IA) (sizes : IA) (items : IA) (moved : IA) (latest : Int32) (rows : IA) (fresh : IA) (oldMask : IA) (oldRows : IA) (known : Int32) (drawn : Int32) (label : IA) (pile : IA) (parts : Int32) (waitX : IA) (waitY : IA) (waitSide : IA) (waits : Int32) (sign : IA) (signs : Int32) (many : IA) (a1 : Int32) (a2 : Int32) {Q : Int32 → IA → IA → IA → Int32 → IA → Int32 → IA → Prop} (h : wp_Md_blocksBy rows waitX waitY waitSide sign many a1 a2 Q) : qm_MI l yX6_blocksBy wsX6_blocksBy rmX6_blocksBy G [.ref (ad 0), .int a1, .int a2] (mw G ad forms sizes items moved latest rows fresh oldMask oldRows known drawn label pile parts waitX waitY waitSide waits sign signs many) (fun (r : Int32) (u : IA × IA × IA × Int32 × IA × Int32 × IA) => Q r u.1 u.2.1 u.2.2.1 u.2.2.2.1 u.2.2.2.2.1 u.2.2.2.2.2.1 u.2.2.2.2.2.2) (fun (u : IA × IA × IA × Int32 × IA × Int32 × IA) => mw G ad forms sizes items moved latest rows fresh oldMask oldRows known drawn label pile parts u.1 u.2.1 u.2.2.1 u.2.2.2.1 u.2.2.2.2.1 u.2.2.2.2.2.1 u.2.2.2.2.2.2) := by
  refine qm_mkI (cc := cX6_blocksBy) (maxL := 3) (by decide) rfl (Nat.le_of_ble_eq_true rfl) ?_
  intro X C hret
  replace C : qm_C G 3 X cX6_blocksBy wsX6_blocksBy RX6 := C
  refine v_lv (lv' := [(0, .ref (ad 0)), (1, .int a1), (2, .int a2)]) rfl ?_
  unfold wp_Md_blocksBy at h
  refine v_aload_n C dX6_blocksBy_0 rfl 0 rfl ?_
  refine v_iload_n C dX6_blocksBy_1 rfl 1 rfl ?_
  refine v_callVv C (c_Md_shows l G ad forms sizes items moved latest rows fresh oldMask oldRows known drawn label pile parts waitX waitY waitSide waits sign signs many a1 h) 0 rfl rfl gX6_blocksBy_X6_shows rfl kX6_shows ⟨rfl, rfl⟩ ⟨Nat.le_of_ble_eq_true rfl, Nat.le_of_ble_eq_true rfl⟩ rfl (Nat.le_of_ble_eq_true rfl) dX6_blocksBy_2 (fun u h => ?_)
  obtain ⟨m_waitX_1, m_waitY_1, m_waitSide_1, m_waits_1, m_sign_1, m_signs_1, m_many_1⟩ := u
  try dsimp only at h
  refine v_world (ws' := mw G ad forms sizes items moved latest rows fresh oldMask oldRows known drawn label pile parts m_waitX_1 m_waitY_1 m_waitSide_1 m_waits_1 m_sign_1 m_signs_1 m_many_1) rfl ?_
  refine v_aload_n C dX6_blocksBy_5 rfl 0 rfl ?_
  refine v_get C iX6_blocksBy_6 0 rfl rfl 20 (by decide) mX6_blocksBy_w1 rfl rfl dX6_blocksBy_6 ?_
  refine v_iload_n C dX6_blocksBy_9 rfl 2 rfl ?_
  obtain ⟨hin_1, h⟩ := h
  refine v_iald C 15 rfl hin_1 dX6_blocksBy_10 ?_
  exact hret _ _ _ (m_many_1 a2.toNatClampNeg) (m_waitX_1, m_waitY_1, m_waitSide_1, m_waits_1, m_sign_1, m_signs_1, m_many_1) h rfl dX6_blocksBy_11
-- QuarterMasksModel.blocks
def rmX6_blocks : Room := { frames := 6, cells := 0, slots := 0, locals := 157 }
theorem kX6_blocks : yX6_blocks.cls = RX6 ∧ yX6_blocks.cls ≠ "java/lang/invoke/MethodHandle" ∧ yX6_blocks.cls ≠ "java/lang/invoke/VarHandle" ∧ (parseMethodDescriptor yX6_blocks.desc).map (fun d => d.parameters.length) = some 2 := by decide +kernel
theorem mX6_blocks_w1 : Cond.constantLong RX6 63 (3) ∈ wsX6_blocks := List.mem_of_getElem? (i := 1) rfl
def wp_Md_blocks (rows : IA) (waitX : IA) (waitY : IA) (waitSide : IA) (waits : Int32) (sign : IA) (signs : Int32) (many : IA) (a1 : Int32) (a2 : Int32) (Q : Int32 → IA → IA → IA → Int32 → IA → Int32 → IA → Prop) : Prop :=
  wp_Md_isMask a1 (fun r_1 => (r_1 = 0 → (Q (-2) waitX waitY waitSide waits sign signs many)) ∧ (¬ r_1 = 0 → (wp_Md_in (Int32.toInt64 a2) 0 3 (fun r_2 => (r_2 = 0 → (Q (-2) waitX waitY waitSide waits sign signs many)) ∧ (¬ r_2 = 0 → (wp_Md_blocksBy rows waitX waitY waitSide sign many a1 a2 (fun r_3 m_waitX_1 m_waitY_1 m_waitSide_1 m_waits_1 m_sign_1 m_signs_1 m_many_1 => Q r_3 m_waitX_1 m_waitY_1 m_waitSide_1 m_waits_1 m_sign_1 m_signs_1 m_many_1)))))))
set_option maxHeartbeats 4000000 in
theorem c_Md_blocks (l : Launch) (G : GG) (ad : Nat → Nat) (forms : IA) (sizes : IA) (items : IA) (moved : IA) (latest : Int32) (rows : IA) (fresh : IA) (oldMask : IA) (oldRows : IA) (known : Int32) (drawn : Int32) (label : IA) (pile : IA) (parts : Int32) (waitX : IA) (waitY : IA) (waitSide : IA) (waits : Int32) (sign : IA) (signs : Int32) (many : IA) (a1 : Int32) (a2 : Int32) {Q : Int32 → IA → IA → IA → Int32 → IA → Int32 → IA → Prop} (h : wp_Md_blocks rows waitX waitY waitSide waits sign signs many a1 a2 Q) : qm_MI l yX6_blocks wsX6_blocks rmX6_blocks G [.ref (ad 0), .int a1, .int a2] (mw G ad forms sizes items moved latest rows fresh oldMask oldRows known drawn label pile parts waitX waitY waitSide waits sign signs many) (fun (r : Int32) (u : IA × IA × IA × Int32 × IA × Int32 × IA) => Q r u.1 u.2.1 u.2.2.1 u.2.2.2.1 u.2.2.2.2.1 u.2.2.2.2.2.1 u.2.2.2.2.2.2) (fun (u : IA × IA × IA × Int32 × IA × Int32 × IA) => mw G ad forms sizes items moved latest rows fresh oldMask oldRows known drawn label pile parts u.1 u.2.1 u.2.2.1 u.2.2.2.1 u.2.2.2.2.1 u.2.2.2.2.2.1 u.2.2.2.2.2.2) := by
  refine qm_mkI (cc := cX6_blocks) (maxL := 3) (by decide) rfl (Nat.le_of_ble_eq_true rfl) ?_
  intro X C hret
  replace C : qm_C G 3 X cX6_blocks wsX6_blocks RX6 := C
  refine v_lv (lv' := [(0, .ref (ad 0)), (1, .int a1), (2, .int a2)]) rfl ?_
  unfold wp_Md_blocks at h
  refine v_iload_n C dX6_blocks_0 rfl 1 rfl ?_
  refine v_callSi C (c_Md_isMask l G (mw G ad forms sizes items moved latest rows fresh oldMask oldRows known drawn label pile parts waitX waitY waitSide waits sign signs many) a1 h) gX6_blocks_X6_isMask rfl kX6_isMask ⟨rfl, rfl⟩ ⟨Nat.le_of_ble_eq_true rfl, Nat.le_of_ble_eq_true rfl⟩ rfl (Nat.le_of_ble_eq_true rfl) dX6_blocks_1 (fun r_1 _ h => ?_)
  try dsimp only at h
  refine v_if_eq C 28 dX6_blocks_4 (by decide) (fun c_2 => ?_) (fun c_2 => ?_)
  · replace h := h.1 c_2
    refine v_bipush C (-2) dX6_blocks_28 (by decide) ?_
    exact hret _ _ _ (-2) (waitX, waitY, waitSide, waits, sign, signs, many) h rfl dX6_blocks_30
  · replace h := h.2 c_2
    refine v_iload_n C dX6_blocks_7 rfl 2 rfl ?_
    refine v_i2l C dX6_blocks_8 ?_
    refine v_lconst C 0 dX6_blocks_9 (by decide) ?_
    refine v_ldc2 C 3 mX6_blocks_w1 dX6_blocks_10 ?_
    refine v_callSi C (c_Md_in l G (mw G ad forms sizes items moved latest rows fresh oldMask oldRows known drawn label pile parts waitX waitY waitSide waits sign signs many) (Int32.toInt64 a2) 0 3 h) gX6_blocks_X6_in rfl kX6_in ⟨rfl, rfl⟩ ⟨Nat.le_of_ble_eq_true rfl, Nat.le_of_ble_eq_true rfl⟩ rfl (Nat.le_of_ble_eq_true rfl) dX6_blocks_13 (fun r_2 _ h => ?_)
    try dsimp only at h
    refine v_if_eq C 28 dX6_blocks_16 (by decide) (fun c_1 => ?_) (fun c_1 => ?_)
    · replace h := h.1 c_1
      refine v_bipush C (-2) dX6_blocks_28 (by decide) ?_
      exact hret _ _ _ (-2) (waitX, waitY, waitSide, waits, sign, signs, many) h rfl dX6_blocks_30
    · replace h := h.2 c_1
      refine v_aload_n C dX6_blocks_19 rfl 0 rfl ?_
      refine v_iload_n C dX6_blocks_20 rfl 1 rfl ?_
      refine v_iload_n C dX6_blocks_21 rfl 2 rfl ?_
      refine v_callVi C (c_Md_blocksBy l G ad forms sizes items moved latest rows fresh oldMask oldRows known drawn label pile parts waitX waitY waitSide waits sign signs many a1 a2 h) 0 rfl rfl gX6_blocks_X6_blocksBy rfl kX6_blocksBy ⟨rfl, rfl⟩ ⟨Nat.le_of_ble_eq_true rfl, Nat.le_of_ble_eq_true rfl⟩ rfl (Nat.le_of_ble_eq_true rfl) dX6_blocks_22 (fun r_3 u h => ?_)
      obtain ⟨m_waitX_1, m_waitY_1, m_waitSide_1, m_waits_1, m_sign_1, m_signs_1, m_many_1⟩ := u
      try dsimp only at h
      refine v_world (ws' := mw G ad forms sizes items moved latest rows fresh oldMask oldRows known drawn label pile parts m_waitX_1 m_waitY_1 m_waitSide_1 m_waits_1 m_sign_1 m_signs_1 m_many_1) rfl ?_
      refine v_goto C 30 dX6_blocks_25 (by decide) ?_
      exact hret _ _ _ r_3 (m_waitX_1, m_waitY_1, m_waitSide_1, m_waits_1, m_sign_1, m_signs_1, m_many_1) h rfl dX6_blocks_30
-- QuarterMasksModel.signBy
def rmX6_signBy : Room := { frames := 1, cells := 0, slots := 0, locals := 40 }
theorem kX6_signBy : yX6_signBy.cls = RX6 ∧ yX6_signBy.cls ≠ "java/lang/invoke/MethodHandle" ∧ yX6_signBy.cls ≠ "java/lang/invoke/VarHandle" ∧ (parseMethodDescriptor yX6_signBy.desc).map (fun d => d.parameters.length) = some 1 := by decide +kernel
theorem mX6_signBy_w1 : Cond.fieldLink RX6 174 "QuarterMasksModel" "signs" "I" ∈ wsX6_signBy := List.mem_of_getElem? (i := 1) rfl
theorem iX6_signBy_6 : ∀ w ∈ wsX60, w ∈ wsX6_signBy := fun w h => List.mem_cons_of_mem _ (List.mem_append_right _ h)
theorem mX6_signBy_w2 : Cond.fieldLink RX6 49 "QuarterMasksModel" "sign" "[I" ∈ wsX6_signBy := List.mem_of_getElem? (i := 2) rfl
def wp_Md_signBy (sign : IA) (signs : Int32) (a1 : Int32) (Q : Int32 → Prop) : Prop :=
  (a1 = (-1) → (Q signs)) ∧ (¬ a1 = (-1) → ((signs ≤ a1 → (Q (-1))) ∧ (¬ signs ≤ a1 → (vp_in a1 341 ∧ (Q (sign a1.toNatClampNeg))))))
set_option maxHeartbeats 4000000 in
theorem c_Md_signBy (l : Launch) (G : GG) (ad : Nat → Nat) (forms : IA) (sizes : IA) (items : IA) (moved : IA) (latest : Int32) (rows : IA) (fresh : IA) (oldMask : IA) (oldRows : IA) (known : Int32) (drawn : Int32) (label : IA) (pile : IA) (parts : Int32) (waitX : IA) (waitY : IA) (waitSide : IA) (waits : Int32) (sign : IA) (signs : Int32) (many : IA) (a1 : Int32) {Q : Int32 → Prop} (h : wp_Md_signBy sign signs a1 Q) : qm_MI l yX6_signBy wsX6_signBy rmX6_signBy G [.ref (ad 0), .int a1] (mw G ad forms sizes items moved latest rows fresh oldMask oldRows known drawn label pile parts waitX waitY waitSide waits sign signs many) (fun (r : Int32) (_ : Unit) => Q r) (fun (_ : Unit) => mw G ad forms sizes items moved latest rows fresh oldMask oldRows known drawn label pile parts waitX waitY waitSide waits sign signs many) := by
  refine qm_mkI (cc := cX6_signBy) (maxL := 2) (by decide) rfl (Nat.le_of_ble_eq_true rfl) ?_
  intro X C hret
  replace C : qm_C G 2 X cX6_signBy wsX6_signBy RX6 := C
  refine v_lv (lv' := [(0, .ref (ad 0)), (1, .int a1)]) rfl ?_
  unfold wp_Md_signBy at h
  refine v_iload_n C dX6_signBy_0 rfl 1 rfl ?_
  refine v_iconst C (-1) dX6_signBy_1 (by decide) ?_
  refine v_icmp_ne C 12 dX6_signBy_2 (by decide) (fun c_2 => ?_) (fun c_2 => ?_)
  · replace h := h.2 c_2
    refine v_iload_n C dX6_signBy_12 rfl 1 rfl ?_
    refine v_aload_n C dX6_signBy_13 rfl 0 rfl ?_
    refine v_get C iX6_signBy_6 0 rfl rfl 19 (by decide) mX6_signBy_w1 rfl rfl dX6_signBy_14 ?_
    refine v_icmp_ge C 29 dX6_signBy_17 (by decide) (fun c_1 => ?_) (fun c_1 => ?_)
    · replace h := h.1 c_1
      refine v_iconst C (-1) dX6_signBy_29 (by decide) ?_
      exact hret _ _ _ (-1) () h rfl dX6_signBy_30
    · replace h := h.2 c_1
      refine v_aload_n C dX6_signBy_20 rfl 0 rfl ?_
      refine v_get C iX6_signBy_6 0 rfl rfl 18 (by decide) mX6_signBy_w2 rfl rfl dX6_signBy_21 ?_
      refine v_iload_n C dX6_signBy_24 rfl 1 rfl ?_
      obtain ⟨hin_1, h⟩ := h
      refine v_iald C 14 rfl hin_1 dX6_signBy_25 ?_
      refine v_goto C 30 dX6_signBy_26 (by decide) ?_
      exact hret _ _ _ (sign a1.toNatClampNeg) () h rfl dX6_signBy_30
  · replace h := h.1 c_2
    refine v_aload_n C dX6_signBy_5 rfl 0 rfl ?_
    refine v_get C iX6_signBy_6 0 rfl rfl 19 (by decide) mX6_signBy_w1 rfl rfl dX6_signBy_6 ?_
    refine v_goto C 30 dX6_signBy_9 (by decide) ?_
    exact hret _ _ _ signs () h rfl dX6_signBy_30
-- QuarterMasksModel.shownBy
def rmX6_shownBy : Room := { frames := 5, cells := 0, slots := 0, locals := 135 }
theorem kX6_shownBy : yX6_shownBy.cls = RX6 ∧ yX6_shownBy.cls ≠ "java/lang/invoke/MethodHandle" ∧ yX6_shownBy.cls ≠ "java/lang/invoke/VarHandle" ∧ (parseMethodDescriptor yX6_shownBy.desc).map (fun d => d.parameters.length) = some 2 := by decide +kernel
def wp_Md_shownBy (rows : IA) (waitX : IA) (waitY : IA) (waitSide : IA) (sign : IA) (many : IA) (a1 : Int32) (a2 : Int32) (Q : Int32 → IA → IA → IA → Int32 → IA → Int32 → IA → Prop) : Prop :=
  wp_Md_shows rows waitX waitY waitSide sign many a1 (fun m_waitX_1 m_waitY_1 m_waitSide_1 m_waits_1 m_sign_1 m_signs_1 m_many_1 => wp_Md_signBy m_sign_1 m_signs_1 a2 (fun r_1 => Q r_1 m_waitX_1 m_waitY_1 m_waitSide_1 m_waits_1 m_sign_1 m_signs_1 m_many_1))
set_option maxHeartbeats 4000000 in
theorem c_Md_shownBy (l : Launch) (G : GG) (ad : Nat → Nat) (forms : IA) (sizes : IA) (items : IA) (moved : IA) (latest : Int32) (rows : IA) (fresh : IA) (oldMask : IA) (oldRows : IA) (known : Int32) (drawn : Int32) (label : IA) (pile : IA) (parts : Int32) (waitX : IA) (waitY : IA) (waitSide : IA) (waits : Int32) (sign : IA) (signs : Int32) (many : IA) (a1 : Int32) (a2 : Int32) {Q : Int32 → IA → IA → IA → Int32 → IA → Int32 → IA → Prop} (h : wp_Md_shownBy rows waitX waitY waitSide sign many a1 a2 Q) : qm_MI l yX6_shownBy wsX6_shownBy rmX6_shownBy G [.ref (ad 0), .int a1, .int a2] (mw G ad forms sizes items moved latest rows fresh oldMask oldRows known drawn label pile parts waitX waitY waitSide waits sign signs many) (fun (r : Int32) (u : IA × IA × IA × Int32 × IA × Int32 × IA) => Q r u.1 u.2.1 u.2.2.1 u.2.2.2.1 u.2.2.2.2.1 u.2.2.2.2.2.1 u.2.2.2.2.2.2) (fun (u : IA × IA × IA × Int32 × IA × Int32 × IA) => mw G ad forms sizes items moved latest rows fresh oldMask oldRows known drawn label pile parts u.1 u.2.1 u.2.2.1 u.2.2.2.1 u.2.2.2.2.1 u.2.2.2.2.2.1 u.2.2.2.2.2.2) := by
  refine qm_mkI (cc := cX6_shownBy) (maxL := 3) (by decide) rfl (Nat.le_of_ble_eq_true rfl) ?_
  intro X C hret
  replace C : qm_C G 3 X cX6_shownBy wsX6_shownBy RX6 := C
  refine v_lv (lv' := [(0, .ref (ad 0)), (1, .int a1), (2, .int a2)]) rfl ?_
  unfold wp_Md_shownBy at h
  refine v_aload_n C dX6_shownBy_0 rfl 0 rfl ?_
  refine v_iload_n C dX6_shownBy_1 rfl 1 rfl ?_
  refine v_callVv C (c_Md_shows l G ad forms sizes items moved latest rows fresh oldMask oldRows known drawn label pile parts waitX waitY waitSide waits sign signs many a1 h) 0 rfl rfl gX6_shownBy_X6_shows rfl kX6_shows ⟨rfl, rfl⟩ ⟨Nat.le_of_ble_eq_true rfl, Nat.le_of_ble_eq_true rfl⟩ rfl (Nat.le_of_ble_eq_true rfl) dX6_shownBy_2 (fun u h => ?_)
  obtain ⟨m_waitX_1, m_waitY_1, m_waitSide_1, m_waits_1, m_sign_1, m_signs_1, m_many_1⟩ := u
  try dsimp only at h
  refine v_world (ws' := mw G ad forms sizes items moved latest rows fresh oldMask oldRows known drawn label pile parts m_waitX_1 m_waitY_1 m_waitSide_1 m_waits_1 m_sign_1 m_signs_1 m_many_1) rfl ?_
  refine v_aload_n C dX6_shownBy_5 rfl 0 rfl ?_
  refine v_iload_n C dX6_shownBy_6 rfl 2 rfl ?_
  refine v_callVi C (c_Md_signBy l G ad forms sizes items moved latest rows fresh oldMask oldRows known drawn label pile parts m_waitX_1 m_waitY_1 m_waitSide_1 m_waits_1 m_sign_1 m_signs_1 m_many_1 a2 h) 0 rfl rfl gX6_shownBy_X6_signBy rfl kX6_signBy ⟨rfl, rfl⟩ ⟨Nat.le_of_ble_eq_true rfl, Nat.le_of_ble_eq_true rfl⟩ rfl (Nat.le_of_ble_eq_true rfl) dX6_shownBy_7 (fun r_1 _ h => ?_)
  try dsimp only at h
  exact hret _ _ _ r_1 (m_waitX_1, m_waitY_1, m_waitSide_1, m_waits_1, m_sign_1, m_signs_1, m_many_1) h rfl dX6_shownBy_10
-- QuarterMasksModel.shown
def rmX6_shown : Room := { frames := 6, cells := 0, slots := 0, locals := 157 }
theorem kX6_shown : yX6_shown.cls = RX6 ∧ yX6_shown.cls ≠ "java/lang/invoke/MethodHandle" ∧ yX6_shown.cls ≠ "java/lang/invoke/VarHandle" ∧ (parseMethodDescriptor yX6_shown.desc).map (fun d => d.parameters.length) = some 2 := by decide +kernel
theorem mX6_shown_w1 : Cond.constantLong RX6 192 (-1) ∈ wsX6_shown := List.mem_of_getElem? (i := 1) rfl
theorem mX6_shown_w2 : Cond.constantLong RX6 194 (340) ∈ wsX6_shown := List.mem_of_getElem? (i := 2) rfl
def wp_Md_shown (rows : IA) (waitX : IA) (waitY : IA) (waitSide : IA) (waits : Int32) (sign : IA) (signs : Int32) (many : IA) (a1 : Int32) (a2 : Int32) (Q : Int32 → IA → IA → IA → Int32 → IA → Int32 → IA → Prop) : Prop :=
  wp_Md_isMask a1 (fun r_1 => (r_1 = 0 → (Q (-2) waitX waitY waitSide waits sign signs many)) ∧ (¬ r_1 = 0 → (wp_Md_in (Int32.toInt64 a2) (-1) 340 (fun r_2 => (r_2 = 0 → (Q (-2) waitX waitY waitSide waits sign signs many)) ∧ (¬ r_2 = 0 → (wp_Md_shownBy rows waitX waitY waitSide sign many a1 a2 (fun r_3 m_waitX_1 m_waitY_1 m_waitSide_1 m_waits_1 m_sign_1 m_signs_1 m_many_1 => Q r_3 m_waitX_1 m_waitY_1 m_waitSide_1 m_waits_1 m_sign_1 m_signs_1 m_many_1)))))))
set_option maxHeartbeats 4000000 in
theorem c_Md_shown (l : Launch) (G : GG) (ad : Nat → Nat) (forms : IA) (sizes : IA) (items : IA) (moved : IA) (latest : Int32) (rows : IA) (fresh : IA) (oldMask : IA) (oldRows : IA) (known : Int32) (drawn : Int32) (label : IA) (pile : IA) (parts : Int32) (waitX : IA) (waitY : IA) (waitSide : IA) (waits : Int32) (sign : IA) (signs : Int32) (many : IA) (a1 : Int32) (a2 : Int32) {Q : Int32 → IA → IA → IA → Int32 → IA → Int32 → IA → Prop} (h : wp_Md_shown rows waitX waitY waitSide waits sign signs many a1 a2 Q) : qm_MI l yX6_shown wsX6_shown rmX6_shown G [.ref (ad 0), .int a1, .int a2] (mw G ad forms sizes items moved latest rows fresh oldMask oldRows known drawn label pile parts waitX waitY waitSide waits sign signs many) (fun (r : Int32) (u : IA × IA × IA × Int32 × IA × Int32 × IA) => Q r u.1 u.2.1 u.2.2.1 u.2.2.2.1 u.2.2.2.2.1 u.2.2.2.2.2.1 u.2.2.2.2.2.2) (fun (u : IA × IA × IA × Int32 × IA × Int32 × IA) => mw G ad forms sizes items moved latest rows fresh oldMask oldRows known drawn label pile parts u.1 u.2.1 u.2.2.1 u.2.2.2.1 u.2.2.2.2.1 u.2.2.2.2.2.1 u.2.2.2.2.2.2) := by
  refine qm_mkI (cc := cX6_shown) (maxL := 3) (by decide) rfl (Nat.le_of_ble_eq_true rfl) ?_
  intro X C hret
  replace C : qm_C G 3 X cX6_shown wsX6_shown RX6 := C
  refine v_lv (lv' := [(0, .ref (ad 0)), (1, .int a1), (2, .int a2)]) rfl ?_
  unfold wp_Md_shown at h
  refine v_iload_n C dX6_shown_0 rfl 1 rfl ?_
  refine v_callSi C (c_Md_isMask l G (mw G ad forms sizes items moved latest rows fresh oldMask oldRows known drawn label pile parts waitX waitY waitSide waits sign signs many) a1 h) gX6_shown_X6_isMask rfl kX6_isMask ⟨rfl, rfl⟩ ⟨Nat.le_of_ble_eq_true rfl, Nat.le_of_ble_eq_true rfl⟩ rfl (Nat.le_of_ble_eq_true rfl) dX6_shown_1 (fun r_1 _ h => ?_)
  try dsimp only at h
  refine v_if_eq C 30 dX6_shown_4 (by decide) (fun c_2 => ?_) (fun c_2 => ?_)
  · replace h := h.1 c_2
    refine v_bipush C (-2) dX6_shown_30 (by decide) ?_
    exact hret _ _ _ (-2) (waitX, waitY, waitSide, waits, sign, signs, many) h rfl dX6_shown_32
  · replace h := h.2 c_2
    refine v_iload_n C dX6_shown_7 rfl 2 rfl ?_
    refine v_i2l C dX6_shown_8 ?_
    refine v_ldc2 C (-1) mX6_shown_w1 dX6_shown_9 ?_
    refine v_ldc2 C 340 mX6_shown_w2 dX6_shown_12 ?_
    refine v_callSi C (c_Md_in l G (mw G ad forms sizes items moved latest rows fresh oldMask oldRows known drawn label pile parts waitX waitY waitSide waits sign signs many) (Int32.toInt64 a2) (-1) 340 h) gX6_shown_X6_in rfl kX6_in ⟨rfl, rfl⟩ ⟨Nat.le_of_ble_eq_true rfl, Nat.le_of_ble_eq_true rfl⟩ rfl (Nat.le_of_ble_eq_true rfl) dX6_shown_15 (fun r_2 _ h => ?_)
    try dsimp only at h
    refine v_if_eq C 30 dX6_shown_18 (by decide) (fun c_1 => ?_) (fun c_1 => ?_)
    · replace h := h.1 c_1
      refine v_bipush C (-2) dX6_shown_30 (by decide) ?_
      exact hret _ _ _ (-2) (waitX, waitY, waitSide, waits, sign, signs, many) h rfl dX6_shown_32
    · replace h := h.2 c_1
      refine v_aload_n C dX6_shown_21 rfl 0 rfl ?_
      refine v_iload_n C dX6_shown_22 rfl 1 rfl ?_
      refine v_iload_n C dX6_shown_23 rfl 2 rfl ?_
      refine v_callVi C (c_Md_shownBy l G ad forms sizes items moved latest rows fresh oldMask oldRows known drawn label pile parts waitX waitY waitSide waits sign signs many a1 a2 h) 0 rfl rfl gX6_shown_X6_shownBy rfl kX6_shownBy ⟨rfl, rfl⟩ ⟨Nat.le_of_ble_eq_true rfl, Nat.le_of_ble_eq_true rfl⟩ rfl (Nat.le_of_ble_eq_true rfl) dX6_shown_24 (fun r_3 u h => ?_)
      obtain ⟨m_waitX_1, m_waitY_1, m_waitSide_1, m_waits_1, m_sign_1, m_signs_1, m_many_1⟩ := u
      try dsimp only at h
      refine v_world (ws' := mw G ad forms sizes items moved latest rows fresh oldMask oldRows known drawn label pile parts m_waitX_1 m_waitY_1 m_waitSide_1 m_waits_1 m_sign_1 m_signs_1 m_many_1) rfl ?_
      refine v_goto C 32 dX6_shown_27 (by decide) ?_
      exact hret _ _ _ r_3 (m_waitX_1, m_waitY_1, m_waitSide_1, m_waits_1, m_sign_1, m_signs_1, m_many_1) h rfl dX6_shown_32
-- QuarterMasksModel.borderAt
def rmX6_borderAt : Room := { frames := 4, cells := 0, slots := 0, locals := 109 }
theorem kX6_borderAt : yX6_borderAt.cls = RX6 ∧ yX6_borderAt.cls ≠ "java/lang/invoke/MethodHandle" ∧ yX6_borderAt.cls ≠ "java/lang/invoke/VarHandle" ∧ (parseMethodDescriptor yX6_borderAt.desc).map (fun d => d.parameters.length) = some 2 := by decide +kernel
def wp_Md_borderAt (rows : IA) (a1 : Int32) (a2 : Int32) (Q : Int32 → Prop) : Prop :=
  ∀ x3_1 : Int32, x3_1 = (jrem a2 16) → (∀ x4_1 : Int32, x4_1 = (a2 / 16) → (wp_Md_dark rows a1 x3_1 x4_1 (fun r_1 => (r_1 = 0 → (Q 0)) ∧ (¬ r_1 = 0 → (wp_Md_dark rows a1 (x3_1 + 1) x4_1 (fun r_2 => wp_Md_dark rows a1 (x3_1 - 1) x4_1 (fun r_3 => wp_Md_dark rows a1 x3_1 (x4_1 + 1) (fun r_4 => wp_Md_dark rows a1 x3_1 (x4_1 - 1) (fun r_5 => Q ((((4 - r_2) - r_3) - r_4) - r_5))))))))))
set_option maxHeartbeats 4000000 in
theorem c_Md_borderAt (l : Launch) (G : GG) (ad : Nat → Nat) (forms : IA) (sizes : IA) (items : IA) (moved : IA) (latest : Int32) (rows : IA) (fresh : IA) (oldMask : IA) (oldRows : IA) (known : Int32) (drawn : Int32) (label : IA) (pile : IA) (parts : Int32) (waitX : IA) (waitY : IA) (waitSide : IA) (waits : Int32) (sign : IA) (signs : Int32) (many : IA) (a1 : Int32) (a2 : Int32) {Q : Int32 → Prop} (h : wp_Md_borderAt rows a1 a2 Q) : qm_MI l yX6_borderAt wsX6_borderAt rmX6_borderAt G [.ref (ad 0), .int a1, .int a2] (mw G ad forms sizes items moved latest rows fresh oldMask oldRows known drawn label pile parts waitX waitY waitSide waits sign signs many) (fun (r : Int32) (_ : Unit) => Q r) (fun (_ : Unit) => mw G ad forms sizes items moved latest rows fresh oldMask oldRows known drawn label pile parts waitX waitY waitSide waits sign signs many) := by
  refine qm_mkI (cc := cX6_borderAt) (maxL := 5) (by decide) rfl (Nat.le_of_ble_eq_true rfl) ?_
  intro X C hret
  replace C : qm_C G 5 X cX6_borderAt wsX6_borderAt RX6 := C
  refine v_lv (lv' := [(0, .ref (ad 0)), (1, .int a1), (2, .int a2)]) rfl ?_
  unfold wp_Md_borderAt at h
  refine v_iload_n C dX6_borderAt_0 rfl 2 rfl ?_
  refine v_bipush C 16 dX6_borderAt_1 (by decide) ?_
  refine v_irem C dX6_borderAt_3 (by decide) ?_
  refine v_topi (fun x3_1 ex3_1 => ?_)
  replace h := h x3_1 ex3_1
  refine v_istore_n C [(3, .int x3_1), (0, .ref (ad 0)), (1, .int a1), (2, .int a2)] dX6_borderAt_4 rfl (by decide) rfl ?_
  refine v_iload_n C dX6_borderAt_5 rfl 3 rfl ?_
  refine v_bipush C 16 dX6_borderAt_6 (by decide) ?_
  refine v_idiv C dX6_borderAt_8 (by decide) ?_
  refine v_topi (fun x4_1 ex4_1 => ?_)
  replace h := h x4_1 ex4_1
  refine v_istore C [(4, .int x4_1), (3, .int x3_1), (0, .ref (ad 0)), (1, .int a1), (2, .int a2)] dX6_borderAt_9 (by decide) rfl ?_
  refine v_aload_n C dX6_borderAt_11 rfl 2 rfl ?_
  refine v_iload_n C dX6_borderAt_12 rfl 3 rfl ?_
  refine v_iload_n C dX6_borderAt_13 rfl 1 rfl ?_
  refine v_iload C dX6_borderAt_14 0 rfl ?_
  refine v_callVi C (c_Md_dark l G ad forms sizes items moved latest rows fresh oldMask oldRows known drawn label pile parts waitX waitY waitSide waits sign signs many a1 x3_1 x4_1 h) 0 rfl rfl gX6_borderAt_X6_dark rfl kX6_dark ⟨rfl, rfl⟩ ⟨Nat.le_of_ble_eq_true rfl, Nat.le_of_ble_eq_true rfl⟩ rfl (Nat.le_of_ble_eq_true rfl) dX6_borderAt_16 (fun r_1 _ h => ?_)
  try dsimp only at h
  refine v_if_ne C 26 dX6_borderAt_19 (by decide) (fun c_1 => ?_) (fun c_1 => ?_)
  · replace h := h.2 c_1
    refine v_iconst C 4 dX6_borderAt_26 (by decide) ?_
    refine v_aload_n C dX6_borderAt_27 rfl 2 rfl ?_
    refine v_iload_n C dX6_borderAt_28 rfl 3 rfl ?_
    refine v_iload_n C dX6_borderAt_29 rfl 1 rfl ?_
    refine v_iconst C 1 dX6_borderAt_30 (by decide) ?_
    refine v_iadd C dX6_borderAt_31 ?_
    refine v_iload C dX6_borderAt_32 0 rfl ?_
    refine v_callVi C (c_Md_dark l G ad forms sizes items moved latest rows fresh oldMask oldRows known drawn label pile parts waitX waitY waitSide waits sign signs many a1 (x3_1 + 1) x4_1 h) 0 rfl rfl gX6_borderAt_X6_dark rfl kX6_dark ⟨rfl, rfl⟩ ⟨Nat.le_of_ble_eq_true rfl, Nat.le_of_ble_eq_true rfl⟩ rfl (Nat.le_of_ble_eq_true rfl) dX6_borderAt_34 (fun r_2 _ h => ?_)
    try dsimp only at h
    refine v_isub C dX6_borderAt_37 ?_
    refine v_aload_n C dX6_borderAt_38 rfl 2 rfl ?_
    refine v_iload_n C dX6_borderAt_39 rfl 3 rfl ?_
    refine v_iload_n C dX6_borderAt_40 rfl 1 rfl ?_
    refine v_iconst C 1 dX6_borderAt_41 (by decide) ?_
    refine v_isub C dX6_borderAt_42 ?_
    refine v_iload C dX6_borderAt_43 0 rfl ?_
    refine v_callVi C (c_Md_dark l G ad forms sizes items moved latest rows fresh oldMask oldRows known drawn label pile parts waitX waitY waitSide waits sign signs many a1 (x3_1 - 1) x4_1 h) 0 rfl rfl gX6_borderAt_X6_dark rfl kX6_dark ⟨rfl, rfl⟩ ⟨Nat.le_of_ble_eq_true rfl, Nat.le_of_ble_eq_true rfl⟩ rfl (Nat.le_of_ble_eq_true rfl) dX6_borderAt_45 (fun r_3 _ h => ?_)
    try dsimp only at h
    refine v_isub C dX6_borderAt_48 ?_
    refine v_aload_n C dX6_borderAt_49 rfl 2 rfl ?_
    refine v_iload_n C dX6_borderAt_50 rfl 3 rfl ?_
    refine v_iload_n C dX6_borderAt_51 rfl 1 rfl ?_
    refine v_iload C dX6_borderAt_52 0 rfl ?_
    refine v_iconst C 1 dX6_borderAt_54 (by decide) ?_
    refine v_iadd C dX6_borderAt_55 ?_
    refine v_callVi C (c_Md_dark l G ad forms sizes items moved latest rows fresh oldMask oldRows known drawn label pile parts waitX waitY waitSide waits sign signs many a1 x3_1 (x4_1 + 1) h) 0 rfl rfl gX6_borderAt_X6_dark rfl kX6_dark ⟨rfl, rfl⟩ ⟨Nat.le_of_ble_eq_true rfl, Nat.le_of_ble_eq_true rfl⟩ rfl (Nat.le_of_ble_eq_true rfl) dX6_borderAt_56 (fun r_4 _ h => ?_)
    try dsimp only at h
    refine v_isub C dX6_borderAt_59 ?_
    refine v_aload_n C dX6_borderAt_60 rfl 2 rfl ?_
    refine v_iload_n C dX6_borderAt_61 rfl 3 rfl ?_
    refine v_iload_n C dX6_borderAt_62 rfl 1 rfl ?_
    refine v_iload C dX6_borderAt_63 0 rfl ?_
    refine v_iconst C 1 dX6_borderAt_65 (by decide) ?_
    refine v_isub C dX6_borderAt_66 ?_
    refine v_callVi C (c_Md_dark l G ad forms sizes items moved latest rows fresh oldMask oldRows known drawn label pile parts waitX waitY waitSide waits sign signs many a1 x3_1 (x4_1 - 1) h) 0 rfl rfl gX6_borderAt_X6_dark rfl kX6_dark ⟨rfl, rfl⟩ ⟨Nat.le_of_ble_eq_true rfl, Nat.le_of_ble_eq_true rfl⟩ rfl (Nat.le_of_ble_eq_true rfl) dX6_borderAt_67 (fun r_5 _ h => ?_)
    try dsimp only at h
    refine v_isub C dX6_borderAt_70 ?_
    exact hret _ _ _ ((((4 - r_2) - r_3) - r_4) - r_5) () h rfl dX6_borderAt_71
  · replace h := h.1 c_1
    refine v_iconst C 0 dX6_borderAt_22 (by decide) ?_
    refine v_goto C 71 dX6_borderAt_23 (by decide) ?_
    exact hret _ _ _ 0 () h rfl dX6_borderAt_71
-- QuarterMasksModel.holesOf
def rmX6_holesOf : Room := { frames := 6, cells := 0, slots := 0, locals := 160 }
theorem kX6_holesOf : yX6_holesOf.cls = RX6 ∧ yX6_holesOf.cls ≠ "java/lang/invoke/MethodHandle" ∧ yX6_holesOf.cls ≠ "java/lang/invoke/VarHandle" ∧ (parseMethodDescriptor yX6_holesOf.desc).map (fun d => d.parameters.length) = some 1 := by decide +kernel
theorem mX6_holesOf_w1 : Cond.fieldLink RX6 144 "QuarterMasksModel" "parts" "I" ∈ wsX6_holesOf := List.mem_of_getElem? (i := 1) rfl
theorem iX6_holesOf_6 : ∀ w ∈ wsX60, w ∈ wsX6_holesOf := fun w h => List.mem_cons_of_mem _ (List.mem_append_right _ h)
theorem mX6_holesOf_w2 : Cond.fieldLink RX6 34 "QuarterMasksModel" "label" "[I" ∈ wsX6_holesOf := List.mem_of_getElem? (i := 2) rfl
def wj_Md_holesOf_117 (x3_1 : Int32) (x2_1 : Int32) (Kh_1 : Int32 → Int32 → Prop) (t_1 : Int32) : Prop :=
  ∀ x2_2 : Int32, x2_2 = (x2_1 + t_1) → (Kh_1 (x3_1 + 1) x2_2)
def wx_Md_holesOf_106 (x3_1 : Int32) (x2_1 : Int32) (Kh_1 : Int32 → Int32 → Prop) (x5_2 : Int32) (x4_2 : Int32) : Prop :=
  jn (wj_Md_holesOf_117 x3_1 x2_1 Kh_1) (fun K_1 : Int32 → Prop => (x4_2 = 0 → (K_1 0)) ∧ (¬ x4_2 = 0 → (K_1 1)))
def wj_Md_holesOf_70 (m_label_1 : IA) (x3_1 : Int32) (x5_1 : Int32) (x4_1 : Int32) (Kh_2 : Int32 → Int32 → Prop) (t_2 : Int32) : Prop :=
  jn (fun (t_3 : Int32) => Kh_2 (x5_1 + 1) t_3) (fun K_2 : Int32 → Prop => (x4_1 = 0 → (K_2 0)) ∧ (¬ x4_1 = 0 → (vp_in x5_1 256 ∧ (jn (K_2 1) (fun K_3 : Prop => ((m_label_1 x5_1.toNatClampNeg) = x3_1 → ((t_2 = 0 → (K_3)) ∧ (¬ t_2 = 0 → (K_2 0)))) ∧ (¬ (m_label_1 x5_1.toNatClampNeg) = x3_1 → (K_3)))))))
def wl_Md_holesOf_24 (m_label_1 : IA) (x3_1 : Int32) (Kx_1 : Int32 → Int32 → Prop) : Nat → Int32 → Int32 → Prop
  | 0, _, _ => False
  | n + 1, x5_1, x4_1 => (256 ≤ x5_1 → (Kx_1 x5_1 x4_1)) ∧ (¬ 256 ≤ x5_1 → (jn (wj_Md_holesOf_70 m_label_1 x3_1 x5_1 x4_1 (wl_Md_holesOf_24 m_label_1 x3_1 Kx_1 n)) (fun K_4 : Int32 → Prop => ((jrem x5_1 16) = 0 → (K_4 1)) ∧ (¬ (jrem x5_1 16) = 0 → (jn (K_4 1) (fun K_5 : Prop => ((jrem x5_1 16) = 15 → (K_5)) ∧ (¬ (jrem x5_1 16) = 15 → ((x5_1 < 16 → (K_5)) ∧ (¬ x5_1 < 16 → ((x5_1 ≤ 239 → (K_4 0)) ∧ (¬ x5_1 ≤ 239 → (K_5))))))))))))
def wl_Md_holesOf_10 (Q : Int32 → IA → IA → Int32 → Prop) (m_label_1 : IA) (m_pile_1 : IA) (m_parts_1 : Int32) : Nat → Int32 → Int32 → Prop
  | 0, _, _ => False
  | n + 1, x3_1, x2_1 => (m_parts_1 ≤ x3_1 → (Q x2_1 m_label_1 m_pile_1 m_parts_1)) ∧ (¬ m_parts_1 ≤ x3_1 → (∃ k_1 : Nat, wl_Md_holesOf_24 m_label_1 x3_1 (wx_Md_holesOf_106 x3_1 x2_1 (wl_Md_holesOf_10 Q m_label_1 m_pile_1 m_parts_1 n)) k_1 0 1))
def wp_Md_holesOf (rows : IA) (label : IA) (pile : IA) (a1 : Int32) (Q : Int32 → IA → IA → Int32 → Prop) : Prop :=
  wp_Md_labels rows label pile a1 0 (fun m_label_1 m_pile_1 m_parts_1 => ∃ k_2 : Nat, wl_Md_holesOf_10 Q m_label_1 m_pile_1 m_parts_1 k_2 0 0)
set_option maxHeartbeats 4000000 in
theorem c_Md_holesOf (l : Launch) (G : GG) (ad : Nat → Nat) (forms : IA) (sizes : IA) (items : IA) (moved : IA) (latest : Int32) (rows : IA) (fresh : IA) (oldMask : IA) (oldRows : IA) (known : Int32) (drawn : Int32) (label : IA) (pile : IA) (parts : Int32) (waitX : IA) (waitY : IA) (waitSide : IA) (waits : Int32) (sign : IA) (signs : Int32) (many : IA) (a1 : Int32) {Q : Int32 → IA → IA → Int32 → Prop} (h : wp_Md_holesOf rows label pile a1 Q) : qm_MI l yX6_holesOf wsX6_holesOf rmX6_holesOf G [.ref (ad 0), .int a1] (mw G ad forms sizes items moved latest rows fresh oldMask oldRows known drawn label pile parts waitX waitY waitSide waits sign signs many) (fun (r : Int32) (u : IA × IA × Int32) => Q r u.1 u.2.1 u.2.2) (fun (u : IA × IA × Int32) => mw G ad forms sizes items moved latest rows fresh oldMask oldRows known drawn u.1 u.2.1 u.2.2 waitX waitY waitSide waits sign signs many) := by
  refine qm_mkI (cc := cX6_holesOf) (maxL := 7) (by decide) rfl (Nat.le_of_ble_eq_true rfl) ?_
  intro X C hret
  replace C : qm_C G 7 X cX6_holesOf wsX6_holesOf RX6 := C
  refine v_lv (lv' := [(0, .ref (ad 0)), (1, .int a1)]) rfl ?_
  unfold wp_Md_holesOf at h
  refine v_aload_n C dX6_holesOf_0 rfl 0 rfl ?_
  refine v_iload_n C dX6_holesOf_1 rfl 1 rfl ?_
  refine v_iconst C 0 dX6_holesOf_2 (by decide) ?_
  refine v_callVv C (c_Md_labels l G ad forms sizes items moved latest rows fresh oldMask oldRows known drawn label pile parts waitX waitY waitSide waits sign signs many a1 0 h) 0 rfl rfl gX6_holesOf_X6_labels rfl kX6_labels ⟨rfl, rfl⟩ ⟨Nat.le_of_ble_eq_true rfl, Nat.le_of_ble_eq_true rfl⟩ rfl (Nat.le_of_ble_eq_true rfl) dX6_holesOf_3 (fun u h => ?_)
  obtain ⟨m_label_1, m_pile_1, m_parts_1⟩ := u
  try dsimp only at h
  refine v_world (ws' := mw G ad forms sizes items moved latest rows fresh oldMask oldRows known drawn m_label_1 m_pile_1 m_parts_1 waitX waitY waitSide waits sign signs many) rfl ?_
  refine v_iconst C 0 dX6_holesOf_6 (by decide) ?_
  refine v_istore_n C [(2, .int 0), (0, .ref (ad 0)), (1, .int a1)] dX6_holesOf_7 rfl (by decide) rfl ?_
  refine v_iconst C 0 dX6_holesOf_8 (by decide) ?_
  refine v_istore_n C [(3, .int 0), (2, .int 0), (0, .ref (ad 0)), (1, .int a1)] dX6_holesOf_9 rfl (by decide) rfl ?_
  have hl_2 : ∀ n_1 : Nat, ∀ (x3_1 : Int32) (x2_1 : Int32), wl_Md_holesOf_10 Q m_label_1 m_pile_1 m_parts_1 n_1 x3_1 x2_1 → qm_V l G rmX6_holesOf 7 X (mw G ad forms sizes items moved latest rows fresh oldMask oldRows known drawn m_label_1 m_pile_1 m_parts_1 waitX waitY waitSide waits sign signs many) [(3, .int x3_1), (2, .int x2_1), (0, .ref (ad 0)), (1, .int a1)] 10 [] := by
    intro n_1
    induction n_1 with
    | zero =>
      intro x3_1 x2_1 h
      exact False.elim h
    | succ n_1 ih_1 =>
      intro x3_1 x2_1 h
      rw [wl_Md_holesOf_10] at h
      refine v_iload_n C dX6_holesOf_10 rfl 0 rfl ?_
      refine v_aload_n C dX6_holesOf_11 rfl 2 rfl ?_
      refine v_get C iX6_holesOf_6 0 rfl rfl 13 (by decide) mX6_holesOf_w1 rfl rfl dX6_holesOf_12 ?_
      refine v_icmp_ge C 125 dX6_holesOf_15 (by decide) (fun c_10 => ?_) (fun c_10 => ?_)
      · replace h := h.1 c_10
        refine v_iload_n C dX6_holesOf_125 rfl 1 rfl ?_
        exact hret _ _ _ x2_1 (m_label_1, m_pile_1, m_parts_1) h rfl dX6_holesOf_126
      · replace h := h.2 c_10
        refine v_iconst C 1 dX6_holesOf_18 (by decide) ?_
        refine v_istore C [(4, .int 1), (3, .int x3_1), (2, .int x2_1), (0, .ref (ad 0)), (1, .int a1)] dX6_holesOf_19 (by decide) rfl ?_
        refine v_iconst C 0 dX6_holesOf_21 (by decide) ?_
        refine v_istore C [(5, .int 0), (4, .int 1), (3, .int x3_1), (2, .int x2_1), (0, .ref (ad 0)), (1, .int a1)] dX6_holesOf_22 (by decide) rfl ?_
        have hx_1 : ∀ (x5_2 : Int32) (x4_2 : Int32), (wx_Md_holesOf_106 x3_1 x2_1 (wl_Md_holesOf_10 Q m_label_1 m_pile_1 m_parts_1 n_1)) x5_2 x4_2 → qm_V l G rmX6_holesOf 7 X (mw G ad forms sizes items moved latest rows fresh oldMask oldRows known drawn m_label_1 m_pile_1 m_parts_1 waitX waitY waitSide waits sign signs many) [(5, .int x5_2), (4, .int x4_2), (3, .int x3_1), (2, .int x2_1), (0, .ref (ad 0)), (1, .int a1)] 106 [] := by
          intro x5_2 x4_2 h
          unfold wx_Md_holesOf_106 at h
          refine v_iload_n C dX6_holesOf_106 rfl 3 rfl ?_
          refine v_iload C dX6_holesOf_107 1 rfl ?_
          have hJ_1 : ∀ (t_1 : Int32), (wj_Md_holesOf_117 x3_1 x2_1 (wl_Md_holesOf_10 Q m_label_1 m_pile_1 m_parts_1 n_1)) t_1 → qm_V l G rmX6_holesOf 7 X (mw G ad forms sizes items moved latest rows fresh oldMask oldRows known drawn m_label_1 m_pile_1 m_parts_1 waitX waitY waitSide waits sign signs many) [(5, .int x5_2), (4, .int x4_2), (3, .int x3_1), (2, .int x2_1), (0, .ref (ad 0)), (1, .int a1)] 117 [.int t_1, .int x2_1] := by
            intro t_1 h
            unfold wj_Md_holesOf_117 at h
            refine v_iadd C dX6_holesOf_117 ?_
            refine v_topi (fun x2_2 ex2_2 => ?_)
            replace h := h x2_2 ex2_2
            refine v_istore_n C [(2, .int x2_2), (5, .int x5_2), (4, .int x4_2), (3, .int x3_1), (0, .ref (ad 0)), (1, .int a1)] dX6_holesOf_118 rfl (by decide) rfl ?_
            refine v_iinc C (x3_1 + 1) 3 [(3, .int (x3_1 + 1)), (2, .int x2_2), (5, .int x5_2), (4, .int x4_2), (0, .ref (ad 0)), (1, .int a1)] dX6_holesOf_119 rfl rfl (by decide) rfl ?_
            refine v_goto C 10 dX6_holesOf_122 (by decide) ?_
            refine v_perm [0, 1, 4, 5] rfl ?_
            exact ih_1 (x3_1 + 1) x2_2 h
          replace h := jn_use h
          try dsimp only at h
          refine v_if_eq C 116 dX6_holesOf_109 (by decide) (fun c_1 => ?_) (fun c_1 => ?_)
          · replace h := h.1 c_1
            refine v_iconst C 0 dX6_holesOf_116 (by decide) ?_
            exact hJ_1 0 h
          · replace h := h.2 c_1
            refine v_iconst C 1 dX6_holesOf_112 (by decide) ?_
            refine v_goto C 117 dX6_holesOf_113 (by decide) ?_
            exact hJ_1 1 h
        have hl_1 : ∀ n_2 : Nat, ∀ (x5_1 : Int32) (x4_1 : Int32), wl_Md_holesOf_24 m_label_1 x3_1 (wx_Md_holesOf_106 x3_1 x2_1 (wl_Md_holesOf_10 Q m_label_1 m_pile_1 m_parts_1 n_1)) n_2 x5_1 x4_1 → qm_V l G rmX6_holesOf 7 X (mw G ad forms sizes items moved latest rows fresh oldMask oldRows known drawn m_label_1 m_pile_1 m_parts_1 waitX waitY waitSide waits sign signs many) [(5, .int x5_1), (4, .int x4_1), (3, .int x3_1), (2, .int x2_1), (0, .ref (ad 0)), (1, .int a1)] 24 [] := by
          intro n_2
          induction n_2 with
          | zero =>
            intro x5_1 x4_1 h
            exact False.elim h
          | succ n_2 ih_2 =>
            intro x5_1 x4_1 h
            rw [wl_Md_holesOf_24] at h
            refine v_iload C dX6_holesOf_24 0 rfl ?_
            refine v_sipush C 256 dX6_holesOf_26 (by decide) ?_
            refine v_icmp_ge C 106 dX6_holesOf_29 (by decide) (fun c_9 => ?_) (fun c_9 => ?_)
            · replace h := h.1 c_9
              exact hx_1 x5_1 x4_1 h
            · replace h := h.2 c_9
              refine v_iload C dX6_holesOf_32 0 rfl ?_
              refine v_bipush C 16 dX6_holesOf_34 (by decide) ?_
              refine v_irem C dX6_holesOf_36 (by decide) ?_
              have hJ_4 : ∀ (t_2 : Int32), (wj_Md_holesOf_70 m_label_1 x3_1 x5_1 x4_1 (wl_Md_holesOf_24 m_label_1 x3_1 (wx_Md_holesOf_106 x3_1 x2_1 (wl_Md_holesOf_10 Q m_label_1 m_pile_1 m_parts_1 n_1)) n_2)) t_2 → qm_V l G rmX6_holesOf 7 X (mw G ad forms sizes items moved latest rows fresh oldMask oldRows known drawn m_label_1 m_pile_1 m_parts_1 waitX waitY waitSide waits sign signs many) [(5, .int x5_1), (4, .int x4_1), (3, .int x3_1), (2, .int x2_1), (0, .ref (ad 0)), (1, .int a1)] 70 [.int t_2] := by
                intro t_2 h
                unfold wj_Md_holesOf_70 at h
                refine v_istore C [(6, .int t_2), (5, .int x5_1), (4, .int x4_1), (3, .int x3_1), (2, .int x2_1), (0, .ref (ad 0)), (1, .int a1)] dX6_holesOf_70 (by decide) rfl ?_
                refine v_iload C dX6_holesOf_72 2 rfl ?_
                have hJ_2 : ∀ (t_3 : Int32), (fun (t_3 : Int32) => (wl_Md_holesOf_24 m_label_1 x3_1 (wx_Md_holesOf_106 x3_1 x2_1 (wl_Md_holesOf_10 Q m_label_1 m_pile_1 m_parts_1 n_1)) n_2) (x5_1 + 1) t_3) t_3 → qm_V l G rmX6_holesOf 7 X (mw G ad forms sizes items moved latest rows fresh oldMask oldRows known drawn m_label_1 m_pile_1 m_parts_1 waitX waitY waitSide waits sign signs many) [(6, .int t_2), (5, .int x5_1), (4, .int x4_1), (3, .int x3_1), (2, .int x2_1), (0, .ref (ad 0)), (1, .int a1)] 98 [.int t_3] := by
                  intro t_3 h
                  try dsimp only at h
                  refine v_istore C [(4, .int t_3), (6, .int t_2), (5, .int x5_1), (3, .int x3_1), (2, .int x2_1), (0, .ref (ad 0)), (1, .int a1)] dX6_holesOf_98 (by decide) rfl ?_
                  refine v_iinc C (x5_1 + 1) 2 [(5, .int (x5_1 + 1)), (4, .int t_3), (6, .int t_2), (3, .int x3_1), (2, .int x2_1), (0, .ref (ad 0)), (1, .int a1)] dX6_holesOf_100 rfl rfl (by decide) rfl ?_
                  refine v_goto C 24 dX6_holesOf_103 (by decide) ?_
                  refine v_perm [0, 1, 3, 4, 5, 6] rfl ?_
                  exact ih_2 (x5_1 + 1) t_3 h
                replace h := jn_use h
                try dsimp only at h
                refine v_if_eq C 97 dX6_holesOf_74 (by decide) (fun c_4 => ?_) (fun c_4 => ?_)
                · replace h := h.1 c_4
                  refine v_iconst C 0 dX6_holesOf_97 (by decide) ?_
                  exact hJ_2 0 h
                · replace h := h.2 c_4
                  refine v_aload_n C dX6_holesOf_77 rfl 5 rfl ?_
                  refine v_get C iX6_holesOf_6 0 rfl rfl 11 (by decide) mX6_holesOf_w2 rfl rfl dX6_holesOf_78 ?_
                  refine v_iload C dX6_holesOf_81 1 rfl ?_
                  obtain ⟨hin_1, h⟩ := h
                  refine v_iald C 9 rfl hin_1 dX6_holesOf_83 ?_
                  refine v_iload_n C dX6_holesOf_84 rfl 3 rfl ?_
                  have hJ_3 : ((fun (t_3 : Int32) => (wl_Md_holesOf_24 m_label_1 x3_1 (wx_Md_holesOf_106 x3_1 x2_1 (wl_Md_holesOf_10 Q m_label_1 m_pile_1 m_parts_1 n_1)) n_2) (x5_1 + 1) t_3) 1) → qm_V l G rmX6_holesOf 7 X (mw G ad forms sizes items moved latest rows fresh oldMask oldRows known drawn m_label_1 m_pile_1 m_parts_1 waitX waitY waitSide waits sign signs many) [(6, .int t_2), (5, .int x5_1), (4, .int x4_1), (3, .int x3_1), (2, .int x2_1), (0, .ref (ad 0)), (1, .int a1)] 93 [] := by
                    intro h
                    try dsimp only at h
                    refine v_iconst C 1 dX6_holesOf_93 (by decide) ?_
                    refine v_goto C 98 dX6_holesOf_94 (by decide) ?_
                    exact hJ_2 1 h
                  replace h := jn_use h
                  try dsimp only at h
                  refine v_icmp_ne C 93 dX6_holesOf_85 (by decide) (fun c_3 => ?_) (fun c_3 => ?_)
                  · replace h := h.2 c_3
                    exact hJ_3 h
                  · replace h := h.1 c_3
                    refine v_iload C dX6_holesOf_88 0 rfl ?_
                    refine v_if_ne C 97 dX6_holesOf_90 (by decide) (fun c_2 => ?_) (fun c_2 => ?_)
                    · replace h := h.2 c_2
                      refine v_iconst C 0 dX6_holesOf_97 (by decide) ?_
                      exact hJ_2 0 h
                    · replace h := h.1 c_2
                      exact hJ_3 h
              replace h := jn_use h
              try dsimp only at h
              refine v_if_eq C 65 dX6_holesOf_37 (by decide) (fun c_8 => ?_) (fun c_8 => ?_)
              · replace h := h.1 c_8
                refine v_iconst C 1 dX6_holesOf_65 (by decide) ?_
                refine v_goto C 70 dX6_holesOf_66 (by decide) ?_
                exact hJ_4 1 h
              · replace h := h.2 c_8
                refine v_iload C dX6_holesOf_40 0 rfl ?_
                refine v_bipush C 16 dX6_holesOf_42 (by decide) ?_
                refine v_irem C dX6_holesOf_44 (by decide) ?_
                refine v_bipush C 15 dX6_holesOf_45 (by decide) ?_
                have hJ_5 : ((wj_Md_holesOf_70 m_label_1 x3_1 x5_1 x4_1 (wl_Md_holesOf_24 m_label_1 x3_1 (wx_Md_holesOf_106 x3_1 x2_1 (wl_Md_holesOf_10 Q m_label_1 m_pile_1 m_parts_1 n_1)) n_2)) 1) → qm_V l G rmX6_holesOf 7 X (mw G ad forms sizes items moved latest rows fresh oldMask oldRows known drawn m_label_1 m_pile_1 m_parts_1 waitX waitY waitSide waits sign signs many) [(5, .int x5_1), (4, .int x4_1), (3, .int x3_1), (2, .int x2_1), (0, .ref (ad 0)), (1, .int a1)] 65 [] := by
                  intro h
                  try dsimp only at h
                  refine v_iconst C 1 dX6_holesOf_65 (by decide) ?_
                  refine v_goto C 70 dX6_holesOf_66 (by decide) ?_
                  exact hJ_4 1 h
                replace h := jn_use h
                try dsimp only at h
                refine v_icmp_eq C 65 dX6_holesOf_47 (by decide) (fun c_7 => ?_) (fun c_7 => ?_)
                · replace h := h.1 c_7
                  exact hJ_5 h
                · replace h := h.2 c_7
                  refine v_iload C dX6_holesOf_50 0 rfl ?_
                  refine v_bipush C 16 dX6_holesOf_52 (by decide) ?_
                  refine v_icmp_lt C 65 dX6_holesOf_54 (by decide) (fun c_6 => ?_) (fun c_6 => ?_)
                  · replace h := h.1 c_6
                    exact hJ_5 h
                  · replace h := h.2 c_6
                    refine v_iload C dX6_holesOf_57 0 rfl ?_
                    refine v_sipush C 239 dX6_holesOf_59 (by decide) ?_
                    refine v_icmp_le C 69 dX6_holesOf_62 (by decide) (fun c_5 => ?_) (fun c_5 => ?_)
                    · replace h := h.1 c_5
                      refine v_iconst C 0 dX6_holesOf_69 (by decide) ?_
                      exact hJ_4 0 h
                    · replace h := h.2 c_5
                      exact hJ_5 h
        obtain ⟨k_1, h⟩ := h
        exact hl_1 k_1 0 1 h
  obtain ⟨k_2, h⟩ := h
  exact hl_2 k_2 0 0 h
-- QuarterMasksModel.partsOf
def rmX6_partsOf : Room := { frames := 6, cells := 0, slots := 0, locals := 160 }
theorem kX6_partsOf : yX6_partsOf.cls = RX6 ∧ yX6_partsOf.cls ≠ "java/lang/invoke/MethodHandle" ∧ yX6_partsOf.cls ≠ "java/lang/invoke/VarHandle" ∧ (parseMethodDescriptor yX6_partsOf.desc).map (fun d => d.parameters.length) = some 1 := by decide +kernel
theorem mX6_partsOf_w1 : Cond.fieldLink RX6 144 "QuarterMasksModel" "parts" "I" ∈ wsX6_partsOf := List.mem_of_getElem? (i := 1) rfl
theorem iX6_partsOf_6 : ∀ w ∈ wsX60, w ∈ wsX6_partsOf := fun w h => List.mem_cons_of_mem _ (List.mem_append_right _ h)
def wp_Md_partsOf (rows : IA) (label : IA) (pile : IA) (a1 : Int32) (Q : Int32 → IA → IA → Int32 → Prop) : Prop :=
  wp_Md_labels rows label pile a1 1 (fun m_label_1 m_pile_1 m_parts_1 => Q m_parts_1 m_label_1 m_pile_1 m_parts_1)
set_option maxHeartbeats 4000000 in
theorem c_Md_partsOf (l : Launch) (G : GG) (ad : Nat → Nat) (forms : IA) (sizes : IA) (items : IA) (moved : IA) (latest : Int32) (rows : IA) (fresh : IA) (oldMask : IA) (oldRows : IA) (known : Int32) (drawn : Int32) (label : IA) (pile : IA) (parts : Int32) (waitX : IA) (waitY : IA) (waitSide : IA) (waits : Int32) (sign : IA) (signs : Int32) (many : IA) (a1 : Int32) {Q : Int32 → IA → IA → Int32 → Prop} (h : wp_Md_partsOf rows label pile a1 Q) : qm_MI l yX6_partsOf wsX6_partsOf rmX6_partsOf G [.ref (ad 0), .int a1] (mw G ad forms sizes items moved latest rows fresh oldMask oldRows known drawn label pile parts waitX waitY waitSide waits sign signs many) (fun (r : Int32) (u : IA × IA × Int32) => Q r u.1 u.2.1 u.2.2) (fun (u : IA × IA × Int32) => mw G ad forms sizes items moved latest rows fresh oldMask oldRows known drawn u.1 u.2.1 u.2.2 waitX waitY waitSide waits sign signs many) := by
  refine qm_mkI (cc := cX6_partsOf) (maxL := 2) (by decide) rfl (Nat.le_of_ble_eq_true rfl) ?_
  intro X C hret
  replace C : qm_C G 2 X cX6_partsOf wsX6_partsOf RX6 := C
  refine v_lv (lv' := [(0, .ref (ad 0)), (1, .int a1)]) rfl ?_
  unfold wp_Md_partsOf at h
  refine v_aload_n C dX6_partsOf_0 rfl 0 rfl ?_
  refine v_iload_n C dX6_partsOf_1 rfl 1 rfl ?_
  refine v_iconst C 1 dX6_partsOf_2 (by decide) ?_
  refine v_callVv C (c_Md_labels l G ad forms sizes items moved latest rows fresh oldMask oldRows known drawn label pile parts waitX waitY waitSide waits sign signs many a1 1 h) 0 rfl rfl gX6_partsOf_X6_labels rfl kX6_labels ⟨rfl, rfl⟩ ⟨Nat.le_of_ble_eq_true rfl, Nat.le_of_ble_eq_true rfl⟩ rfl (Nat.le_of_ble_eq_true rfl) dX6_partsOf_3 (fun u h => ?_)
  obtain ⟨m_label_1, m_pile_1, m_parts_1⟩ := u
  try dsimp only at h
  refine v_world (ws' := mw G ad forms sizes items moved latest rows fresh oldMask oldRows known drawn m_label_1 m_pile_1 m_parts_1 waitX waitY waitSide waits sign signs many) rfl ?_
  refine v_aload_n C dX6_partsOf_6 rfl 0 rfl ?_
  refine v_get C iX6_partsOf_6 0 rfl rfl 13 (by decide) mX6_partsOf_w1 rfl rfl dX6_partsOf_7 ?_
  exact hret _ _ _ m_parts_1 (m_label_1, m_pile_1, m_parts_1) h rfl dX6_partsOf_10
-- QuarterMasksModel.borderOf
def rmX6_borderOf : Room := { frames := 5, cells := 0, slots := 0, locals := 133 }
theorem kX6_borderOf : yX6_borderOf.cls = RX6 ∧ yX6_borderOf.cls ≠ "java/lang/invoke/MethodHandle" ∧ yX6_borderOf.cls ≠ "java/lang/invoke/VarHandle" ∧ (parseMethodDescriptor yX6_borderOf.desc).map (fun d => d.parameters.length) = some 1 := by decide +kernel
def wl_Md_borderOf_4 (rows : IA) (a1 : Int32) (Q : Int32 → Prop) : Nat → Int32 → Int32 → Prop
  | 0, _, _ => False
  | n + 1, x3_1, x2_1 => (256 ≤ x3_1 → (Q x2_1)) ∧ (¬ 256 ≤ x3_1 → (wp_Md_borderAt rows a1 x3_1 (fun r_1 => ∀ x2_2 : Int32, x2_2 = (x2_1 + r_1) → ((wl_Md_borderOf_4 rows a1 Q n) (x3_1 + 1) x2_2))))
def wp_Md_borderOf (rows : IA) (a1 : Int32) (Q : Int32 → Prop) : Prop :=
  ∃ k_1 : Nat, wl_Md_borderOf_4 rows a1 Q k_1 0 0
set_option maxHeartbeats 4000000 in
theorem c_Md_borderOf (l : Launch) (G : GG) (ad : Nat → Nat) (forms : IA) (sizes : IA) (items : IA) (moved : IA) (latest : Int32) (rows : IA) (fresh : IA) (oldMask : IA) (oldRows : IA) (known : Int32) (drawn : Int32) (label : IA) (pile : IA) (parts : Int32) (waitX : IA) (waitY : IA) (waitSide : IA) (waits : Int32) (sign : IA) (signs : Int32) (many : IA) (a1 : Int32) {Q : Int32 → Prop} (h : wp_Md_borderOf rows a1 Q) : qm_MI l yX6_borderOf wsX6_borderOf rmX6_borderOf G [.ref (ad 0), .int a1] (mw G ad forms sizes items moved latest rows fresh oldMask oldRows known drawn label pile parts waitX waitY waitSide waits sign signs many) (fun (r : Int32) (_ : Unit) => Q r) (fun (_ : Unit) => mw G ad forms sizes items moved latest rows fresh oldMask oldRows known drawn label pile parts waitX waitY waitSide waits sign signs many) := by
  refine qm_mkI (cc := cX6_borderOf) (maxL := 4) (by decide) rfl (Nat.le_of_ble_eq_true rfl) ?_
  intro X C hret
  replace C : qm_C G 4 X cX6_borderOf wsX6_borderOf RX6 := C
  refine v_lv (lv' := [(0, .ref (ad 0)), (1, .int a1)]) rfl ?_
  unfold wp_Md_borderOf at h
  refine v_iconst C 0 dX6_borderOf_0 (by decide) ?_
  refine v_istore_n C [(2, .int 0), (0, .ref (ad 0)), (1, .int a1)] dX6_borderOf_1 rfl (by decide) rfl ?_
  refine v_iconst C 0 dX6_borderOf_2 (by decide) ?_
  refine v_istore_n C [(3, .int 0), (2, .int 0), (0, .ref (ad 0)), (1, .int a1)] dX6_borderOf_3 rfl (by decide) rfl ?_
  have hl_1 : ∀ n_1 : Nat, ∀ (x3_1 : Int32) (x2_1 : Int32), wl_Md_borderOf_4 rows a1 Q n_1 x3_1 x2_1 → qm_V l G rmX6_borderOf 4 X (mw G ad forms sizes items moved latest rows fresh oldMask oldRows known drawn label pile parts waitX waitY waitSide waits sign signs many) [(3, .int x3_1), (2, .int x2_1), (0, .ref (ad 0)), (1, .int a1)] 4 [] := by
    intro n_1
    induction n_1 with
    | zero =>
      intro x3_1 x2_1 h
      exact False.elim h
    | succ n_1 ih_1 =>
      intro x3_1 x2_1 h
      rw [wl_Md_borderOf_4] at h
      refine v_iload_n C dX6_borderOf_4 rfl 0 rfl ?_
      refine v_sipush C 256 dX6_borderOf_5 (by decide) ?_
      refine v_icmp_ge C 26 dX6_borderOf_8 (by decide) (fun c_1 => ?_) (fun c_1 => ?_)
      · replace h := h.1 c_1
        refine v_iload_n C dX6_borderOf_26 rfl 1 rfl ?_
        exact hret _ _ _ x2_1 () h rfl dX6_borderOf_27
      · replace h := h.2 c_1
        refine v_iload_n C dX6_borderOf_11 rfl 1 rfl ?_
        refine v_aload_n C dX6_borderOf_12 rfl 2 rfl ?_
        refine v_iload_n C dX6_borderOf_13 rfl 3 rfl ?_
        refine v_iload_n C dX6_borderOf_14 rfl 0 rfl ?_
        refine v_callVi C (c_Md_borderAt l G ad forms sizes items moved latest rows fresh oldMask oldRows known drawn label pile parts waitX waitY waitSide waits sign signs many a1 x3_1 h) 0 rfl rfl gX6_borderOf_X6_borderAt rfl kX6_borderAt ⟨rfl, rfl⟩ ⟨Nat.le_of_ble_eq_true rfl, Nat.le_of_ble_eq_true rfl⟩ rfl (Nat.le_of_ble_eq_true rfl) dX6_borderOf_15 (fun r_1 _ h => ?_)
        try dsimp only at h
        refine v_iadd C dX6_borderOf_18 ?_
        refine v_topi (fun x2_2 ex2_2 => ?_)
        replace h := h x2_2 ex2_2
        refine v_istore_n C [(2, .int x2_2), (3, .int x3_1), (0, .ref (ad 0)), (1, .int a1)] dX6_borderOf_19 rfl (by decide) rfl ?_
        refine v_iinc C (x3_1 + 1) 1 [(3, .int (x3_1 + 1)), (2, .int x2_2), (0, .ref (ad 0)), (1, .int a1)] dX6_borderOf_20 rfl rfl (by decide) rfl ?_
        refine v_goto C 4 dX6_borderOf_23 (by decide) ?_
        exact ih_1 (x3_1 + 1) x2_2 h
  obtain ⟨k_1, h⟩ := h
  exact hl_1 k_1 0 0 h
-- QuarterMasksModel.allBy
def rmX6_allBy : Room := { frames := 7, cells := 0, slots := 0, locals := 186 }
theorem kX6_allBy : yX6_allBy.cls = RX6 ∧ yX6_allBy.cls ≠ "java/lang/invoke/MethodHandle" ∧ yX6_allBy.cls ≠ "java/lang/invoke/VarHandle" ∧ (parseMethodDescriptor yX6_allBy.desc).map (fun d => d.parameters.length) = some 2 := by decide +kernel
def wp_Md_allBy (rows : IA) (label : IA) (pile : IA) (parts : Int32) (a1 : Int32) (a2 : Int32) (Q : Int32 → IA → IA → Int32 → Prop) : Prop :=
  (a2 = 0 → (wp_Md_partsOf rows label pile a1 (fun r_4 m_label_2 m_pile_2 m_parts_2 => Q r_4 m_label_2 m_pile_2 m_parts_2))) ∧ (¬ a2 = 0 → ((a2 = 1 → (wp_Md_borderOf rows a1 (fun r_3 => Q r_3 label pile parts))) ∧ (¬ a2 = 1 → ((a2 = 2 → (wp_Md_holesOf rows label pile a1 (fun r_2 m_label_1 m_pile_1 m_parts_1 => Q r_2 m_label_1 m_pile_1 m_parts_1))) ∧ (¬ a2 = 2 → (wp_Md_darkOf rows a1 (fun r_1 => Q r_1 label pile parts)))))))
set_option maxHeartbeats 4000000 in
theorem c_Md_allBy (l : Launch) (G : GG) (ad : Nat → Nat) (forms : IA) (sizes : IA) (items : IA) (moved : IA) (latest : Int32) (rows : IA) (fresh : IA) (oldMask : IA) (oldRows : IA) (known : Int32) (drawn : Int32) (label : IA) (pile : IA) (parts : Int32) (waitX : IA) (waitY : IA) (waitSide : IA) (waits : Int32) (sign : IA) (signs : Int32) (many : IA) (a1 : Int32) (a2 : Int32) {Q : Int32 → IA → IA → Int32 → Prop} (h : wp_Md_allBy rows label pile parts a1 a2 Q) : qm_MI l yX6_allBy wsX6_allBy rmX6_allBy G [.ref (ad 0), .int a1, .int a2] (mw G ad forms sizes items moved latest rows fresh oldMask oldRows known drawn label pile parts waitX waitY waitSide waits sign signs many) (fun (r : Int32) (u : IA × IA × Int32) => Q r u.1 u.2.1 u.2.2) (fun (u : IA × IA × Int32) => mw G ad forms sizes items moved latest rows fresh oldMask oldRows known drawn u.1 u.2.1 u.2.2 waitX waitY waitSide waits sign signs many) := by
  refine qm_mkI (cc := cX6_allBy) (maxL := 3) (by decide) rfl (Nat.le_of_ble_eq_true rfl) ?_
  intro X C hret
  replace C : qm_C G 3 X cX6_allBy wsX6_allBy RX6 := C
  refine v_lv (lv' := [(0, .ref (ad 0)), (1, .int a1), (2, .int a2)]) rfl ?_
  unfold wp_Md_allBy at h
  refine v_iload_n C dX6_allBy_0 rfl 2 rfl ?_
  refine v_if_ne C 12 dX6_allBy_1 (by decide) (fun c_3 => ?_) (fun c_3 => ?_)
  · replace h := h.2 c_3
    refine v_iload_n C dX6_allBy_12 rfl 2 rfl ?_
    refine v_iconst C 1 dX6_allBy_13 (by decide) ?_
    refine v_icmp_ne C 25 dX6_allBy_14 (by decide) (fun c_2 => ?_) (fun c_2 => ?_)
    · replace h := h.2 c_2
      refine v_iload_n C dX6_allBy_25 rfl 2 rfl ?_
      refine v_iconst C 2 dX6_allBy_26 (by decide) ?_
      refine v_icmp_ne C 38 dX6_allBy_27 (by decide) (fun c_1 => ?_) (fun c_1 => ?_)
      · replace h := h.2 c_1
        refine v_aload_n C dX6_allBy_38 rfl 0 rfl ?_
        refine v_iload_n C dX6_allBy_39 rfl 1 rfl ?_
        refine v_callVi C (c_Md_darkOf l G ad forms sizes items moved latest rows fresh oldMask oldRows known drawn label pile parts waitX waitY waitSide waits sign signs many a1 h) 0 rfl rfl gX6_allBy_X6_darkOf rfl kX6_darkOf ⟨rfl, rfl⟩ ⟨Nat.le_of_ble_eq_true rfl, Nat.le_of_ble_eq_true rfl⟩ rfl (Nat.le_of_ble_eq_true rfl) dX6_allBy_40 (fun r_1 _ h => ?_)
        try dsimp only at h
        exact hret _ _ _ r_1 (label, pile, parts) h rfl dX6_allBy_43
      · replace h := h.1 c_1
        refine v_aload_n C dX6_allBy_30 rfl 0 rfl ?_
        refine v_iload_n C dX6_allBy_31 rfl 1 rfl ?_
        refine v_callVi C (c_Md_holesOf l G ad forms sizes items moved latest rows fresh oldMask oldRows known drawn label pile parts waitX waitY waitSide waits sign signs many a1 h) 0 rfl rfl gX6_allBy_X6_holesOf rfl kX6_holesOf ⟨rfl, rfl⟩ ⟨Nat.le_of_ble_eq_true rfl, Nat.le_of_ble_eq_true rfl⟩ rfl (Nat.le_of_ble_eq_true rfl) dX6_allBy_32 (fun r_2 u h => ?_)
        obtain ⟨m_label_1, m_pile_1, m_parts_1⟩ := u
        try dsimp only at h
        refine v_world (ws' := mw G ad forms sizes items moved latest rows fresh oldMask oldRows known drawn m_label_1 m_pile_1 m_parts_1 waitX waitY waitSide waits sign signs many) rfl ?_
        refine v_goto C 43 dX6_allBy_35 (by decide) ?_
        exact hret _ _ _ r_2 (m_label_1, m_pile_1, m_parts_1) h rfl dX6_allBy_43
    · replace h := h.1 c_2
      refine v_aload_n C dX6_allBy_17 rfl 0 rfl ?_
      refine v_iload_n C dX6_allBy_18 rfl 1 rfl ?_
      refine v_callVi C (c_Md_borderOf l G ad forms sizes items moved latest rows fresh oldMask oldRows known drawn label pile parts waitX waitY waitSide waits sign signs many a1 h) 0 rfl rfl gX6_allBy_X6_borderOf rfl kX6_borderOf ⟨rfl, rfl⟩ ⟨Nat.le_of_ble_eq_true rfl, Nat.le_of_ble_eq_true rfl⟩ rfl (Nat.le_of_ble_eq_true rfl) dX6_allBy_19 (fun r_3 _ h => ?_)
      try dsimp only at h
      refine v_goto C 43 dX6_allBy_22 (by decide) ?_
      exact hret _ _ _ r_3 (label, pile, parts) h rfl dX6_allBy_43
  · replace h := h.1 c_3
    refine v_aload_n C dX6_allBy_4 rfl 0 rfl ?_
    refine v_iload_n C dX6_allBy_5 rfl 1 rfl ?_
    refine v_callVi C (c_Md_partsOf l G ad forms sizes items moved latest rows fresh oldMask oldRows known drawn label pile parts waitX waitY waitSide waits sign signs many a1 h) 0 rfl rfl gX6_allBy_X6_partsOf rfl kX6_partsOf ⟨rfl, rfl⟩ ⟨Nat.le_of_ble_eq_true rfl, Nat.le_of_ble_eq_true rfl⟩ rfl (Nat.le_of_ble_eq_true rfl) dX6_allBy_6 (fun r_4 u h => ?_)
    obtain ⟨m_label_2, m_pile_2, m_parts_2⟩ := u
    try dsimp only at h
    refine v_world (ws' := mw G ad forms sizes items moved latest rows fresh oldMask oldRows known drawn m_label_2 m_pile_2 m_parts_2 waitX waitY waitSide waits sign signs many) rfl ?_
    refine v_goto C 43 dX6_allBy_9 (by decide) ?_
    exact hret _ _ _ r_4 (m_label_2, m_pile_2, m_parts_2) h rfl dX6_allBy_43
-- QuarterMasksModel.all
def rmX6_all : Room := { frames := 8, cells := 0, slots := 0, locals := 208 }
theorem kX6_all : yX6_all.cls = RX6 ∧ yX6_all.cls ≠ "java/lang/invoke/MethodHandle" ∧ yX6_all.cls ≠ "java/lang/invoke/VarHandle" ∧ (parseMethodDescriptor yX6_all.desc).map (fun d => d.parameters.length) = some 2 := by decide +kernel
theorem mX6_all_w1 : Cond.constantLong RX6 63 (3) ∈ wsX6_all := List.mem_of_getElem? (i := 1) rfl
def wp_Md_all (rows : IA) (label : IA) (pile : IA) (parts : Int32) (a1 : Int32) (a2 : Int32) (Q : Int32 → IA → IA → Int32 → Prop) : Prop :=
  wp_Md_isMask a1 (fun r_1 => (r_1 = 0 → (Q (-2) label pile parts)) ∧ (¬ r_1 = 0 → (wp_Md_in (Int32.toInt64 a2) 0 3 (fun r_2 => (r_2 = 0 → (Q (-2) label pile parts)) ∧ (¬ r_2 = 0 → (wp_Md_allBy rows label pile parts a1 a2 (fun r_3 m_label_1 m_pile_1 m_parts_1 => Q r_3 m_label_1 m_pile_1 m_parts_1)))))))
set_option maxHeartbeats 4000000 in
theorem c_Md_all (l : Launch) (G : GG) (ad : Nat → Nat) (forms : IA) (sizes : IA) (items : IA) (moved : IA) (latest : Int32) (rows : IA) (fresh : IA) (oldMask : IA) (oldRows : IA) (known : Int32) (drawn : Int32) (label : IA) (pile : IA) (parts : Int32) (waitX : IA) (waitY : IA) (waitSide : IA) (waits : Int32) (sign : IA) (signs : Int32) (many : IA) (a1 : Int32) (a2 : Int32) {Q : Int32 → IA → IA → Int32 → Prop} (h : wp_Md_all rows label pile parts a1 a2 Q) : qm_MI l yX6_all wsX6_all rmX6_all G [.ref (ad 0), .int a1, .int a2] (mw G ad forms sizes items moved latest rows fresh oldMask oldRows known drawn label pile parts waitX waitY waitSide waits sign signs many) (fun (r : Int32) (u : IA × IA × Int32) => Q r u.1 u.2.1 u.2.2) (fun (u : IA × IA × Int32) => mw G ad forms sizes items moved latest rows fresh oldMask oldRows known drawn u.1 u.2.1 u.2.2 waitX waitY waitSide waits sign signs many) := by
  refine qm_mkI (cc := cX6_all) (maxL := 3) (by decide) rfl (Nat.le_of_ble_eq_true rfl) ?_
  intro X C hret
  replace C : qm_C G 3 X cX6_all wsX6_all RX6 := C
  refine v_lv (lv' := [(0, .ref (ad 0)), (1, .int a1), (2, .int a2)]) rfl ?_
  unfold wp_Md_all at h
  refine v_iload_n C dX6_all_0 rfl 1 rfl ?_
  refine v_callSi C (c_Md_isMask l G (mw G ad forms sizes items moved latest rows fresh oldMask oldRows known drawn label pile parts waitX waitY waitSide waits sign signs many) a1 h) gX6_all_X6_isMask rfl kX6_isMask ⟨rfl, rfl⟩ ⟨Nat.le_of_ble_eq_true rfl, Nat.le_of_ble_eq_true rfl⟩ rfl (Nat.le_of_ble_eq_true rfl) dX6_all_1 (fun r_1 _ h => ?_)
  try dsimp only at h
  refine v_if_eq C 28 dX6_all_4 (by decide) (fun c_2 => ?_) (fun c_2 => ?_)
  · replace h := h.1 c_2
    refine v_bipush C (-2) dX6_all_28 (by decide) ?_
    exact hret _ _ _ (-2) (label, pile, parts) h rfl dX6_all_30
  · replace h := h.2 c_2
    refine v_iload_n C dX6_all_7 rfl 2 rfl ?_
    refine v_i2l C dX6_all_8 ?_
    refine v_lconst C 0 dX6_all_9 (by decide) ?_
    refine v_ldc2 C 3 mX6_all_w1 dX6_all_10 ?_
    refine v_callSi C (c_Md_in l G (mw G ad forms sizes items moved latest rows fresh oldMask oldRows known drawn label pile parts waitX waitY waitSide waits sign signs many) (Int32.toInt64 a2) 0 3 h) gX6_all_X6_in rfl kX6_in ⟨rfl, rfl⟩ ⟨Nat.le_of_ble_eq_true rfl, Nat.le_of_ble_eq_true rfl⟩ rfl (Nat.le_of_ble_eq_true rfl) dX6_all_13 (fun r_2 _ h => ?_)
    try dsimp only at h
    refine v_if_eq C 28 dX6_all_16 (by decide) (fun c_1 => ?_) (fun c_1 => ?_)
    · replace h := h.1 c_1
      refine v_bipush C (-2) dX6_all_28 (by decide) ?_
      exact hret _ _ _ (-2) (label, pile, parts) h rfl dX6_all_30
    · replace h := h.2 c_1
      refine v_aload_n C dX6_all_19 rfl 0 rfl ?_
      refine v_iload_n C dX6_all_20 rfl 1 rfl ?_
      refine v_iload_n C dX6_all_21 rfl 2 rfl ?_
      refine v_callVi C (c_Md_allBy l G ad forms sizes items moved latest rows fresh oldMask oldRows known drawn label pile parts waitX waitY waitSide waits sign signs many a1 a2 h) 0 rfl rfl gX6_all_X6_allBy rfl kX6_allBy ⟨rfl, rfl⟩ ⟨Nat.le_of_ble_eq_true rfl, Nat.le_of_ble_eq_true rfl⟩ rfl (Nat.le_of_ble_eq_true rfl) dX6_all_22 (fun r_3 u h => ?_)
      obtain ⟨m_label_1, m_pile_1, m_parts_1⟩ := u
      try dsimp only at h
      refine v_world (ws' := mw G ad forms sizes items moved latest rows fresh oldMask oldRows known drawn m_label_1 m_pile_1 m_parts_1 waitX waitY waitSide waits sign signs many) rfl ?_
      refine v_goto C 30 dX6_all_25 (by decide) ?_
      exact hret _ _ _ r_3 (m_label_1, m_pile_1, m_parts_1) h rfl dX6_all_30
-- QuarterMasksModel.label
def rmX6_label : Room := { frames := 6, cells := 0, slots := 0, locals := 160 }
theorem kX6_label : yX6_label.cls = RX6 ∧ yX6_label.cls ≠ "java/lang/invoke/MethodHandle" ∧ yX6_label.cls ≠ "java/lang/invoke/VarHandle" ∧ (parseMethodDescriptor yX6_label.desc).map (fun d => d.parameters.length) = some 3 := by decide +kernel
theorem mX6_label_w1 : Cond.fieldLink RX6 34 "QuarterMasksModel" "label" "[I" ∈ wsX6_label := List.mem_of_getElem? (i := 1) rfl
theorem iX6_label_6 : ∀ w ∈ wsX60, w ∈ wsX6_label := fun w h => List.mem_cons_of_mem _ (List.mem_append_right _ h)
def wp_Md_label (rows : IA) (label : IA) (pile : IA) (parts : Int32) (a1 : Int32) (a2 : Int32) (a3 : Int32) (Q : Int32 → IA → IA → Int32 → Prop) : Prop :=
  wp_Md_isMask a1 (fun r_1 => (r_1 = 0 → (Q (-2) label pile parts)) ∧ (¬ r_1 = 0 → (wp_Md_isCell a2 a3 (fun r_2 => (r_2 = 0 → (Q (-2) label pile parts)) ∧ (¬ r_2 = 0 → (wp_Md_labels rows label pile a1 1 (fun m_label_1 m_pile_1 m_parts_1 => vp_in ((16 * a3) + a2) 256 ∧ (Q (m_label_1 ((16 * a3) + a2).toNatClampNeg) m_label_1 m_pile_1 m_parts_1))))))))
set_option maxHeartbeats 4000000 in
theorem c_Md_label (l : Launch) (G : GG) (ad : Nat → Nat) (forms : IA) (sizes : IA) (items : IA) (moved : IA) (latest : Int32) (rows : IA) (fresh : IA) (oldMask : IA) (oldRows : IA) (known : Int32) (drawn : Int32) (label : IA) (pile : IA) (parts : Int32) (waitX : IA) (waitY : IA) (waitSide : IA) (waits : Int32) (sign : IA) (signs : Int32) (many : IA) (a1 : Int32) (a2 : Int32) (a3 : Int32) {Q : Int32 → IA → IA → Int32 → Prop} (h : wp_Md_label rows label pile parts a1 a2 a3 Q) : qm_MI l yX6_label wsX6_label rmX6_label G [.ref (ad 0), .int a1, .int a2, .int a3] (mw G ad forms sizes items moved latest rows fresh oldMask oldRows known drawn label pile parts waitX waitY waitSide waits sign signs many) (fun (r : Int32) (u : IA × IA × Int32) => Q r u.1 u.2.1 u.2.2) (fun (u : IA × IA × Int32) => mw G ad forms sizes items moved latest rows fresh oldMask oldRows known drawn u.1 u.2.1 u.2.2 waitX waitY waitSide waits sign signs many) := by
  refine qm_mkI (cc := cX6_label) (maxL := 4) (by decide) rfl (Nat.le_of_ble_eq_true rfl) ?_
  intro X C hret
  replace C : qm_C G 4 X cX6_label wsX6_label RX6 := C
  refine v_lv (lv' := [(0, .ref (ad 0)), (1, .int a1), (2, .int a2), (3, .int a3)]) rfl ?_
  unfold wp_Md_label at h
  refine v_iload_n C dX6_label_0 rfl 1 rfl ?_
  refine v_callSi C (c_Md_isMask l G (mw G ad forms sizes items moved latest rows fresh oldMask oldRows known drawn label pile parts waitX waitY waitSide waits sign signs many) a1 h) gX6_label_X6_isMask rfl kX6_isMask ⟨rfl, rfl⟩ ⟨Nat.le_of_ble_eq_true rfl, Nat.le_of_ble_eq_true rfl⟩ rfl (Nat.le_of_ble_eq_true rfl) dX6_label_1 (fun r_1 _ h => ?_)
  try dsimp only at h
  refine v_if_eq C 15 dX6_label_4 (by decide) (fun c_2 => ?_) (fun c_2 => ?_)
  · replace h := h.1 c_2
    refine v_bipush C (-2) dX6_label_15 (by decide) ?_
    exact hret _ _ _ (-2) (label, pile, parts) h rfl dX6_label_17
  · replace h := h.2 c_2
    refine v_iload_n C dX6_label_7 rfl 2 rfl ?_
    refine v_iload_n C dX6_label_8 rfl 3 rfl ?_
    refine v_callSi C (c_Md_isCell l G (mw G ad forms sizes items moved latest rows fresh oldMask oldRows known drawn label pile parts waitX waitY waitSide waits sign signs many) a2 a3 h) gX6_label_X6_isCell rfl kX6_isCell ⟨rfl, rfl⟩ ⟨Nat.le_of_ble_eq_true rfl, Nat.le_of_ble_eq_true rfl⟩ rfl (Nat.le_of_ble_eq_true rfl) dX6_label_9 (fun r_2 _ h => ?_)
    try dsimp only at h
    refine v_if_ne C 18 dX6_label_12 (by decide) (fun c_1 => ?_) (fun c_1 => ?_)
    · replace h := h.2 c_1
      refine v_aload_n C dX6_label_18 rfl 0 rfl ?_
      refine v_iload_n C dX6_label_19 rfl 1 rfl ?_
      refine v_iconst C 1 dX6_label_20 (by decide) ?_
      refine v_callVv C (c_Md_labels l G ad forms sizes items moved latest rows fresh oldMask oldRows known drawn label pile parts waitX waitY waitSide waits sign signs many a1 1 h) 0 rfl rfl gX6_label_X6_labels rfl kX6_labels ⟨rfl, rfl⟩ ⟨Nat.le_of_ble_eq_true rfl, Nat.le_of_ble_eq_true rfl⟩ rfl (Nat.le_of_ble_eq_true rfl) dX6_label_21 (fun u h => ?_)
      obtain ⟨m_label_1, m_pile_1, m_parts_1⟩ := u
      try dsimp only at h
      refine v_world (ws' := mw G ad forms sizes items moved latest rows fresh oldMask oldRows known drawn m_label_1 m_pile_1 m_parts_1 waitX waitY waitSide waits sign signs many) rfl ?_
      refine v_aload_n C dX6_label_24 rfl 0 rfl ?_
      refine v_get C iX6_label_6 0 rfl rfl 11 (by decide) mX6_label_w1 rfl rfl dX6_label_25 ?_
      refine v_bipush C 16 dX6_label_28 (by decide) ?_
      refine v_iload_n C dX6_label_30 rfl 3 rfl ?_
      refine v_imul C dX6_label_31 ?_
      refine v_iload_n C dX6_label_32 rfl 2 rfl ?_
      refine v_iadd C dX6_label_33 ?_
      obtain ⟨hin_1, h⟩ := h
      refine v_iald C 9 rfl hin_1 dX6_label_34 ?_
      exact hret _ _ _ (m_label_1 ((16 * a3) + a2).toNatClampNeg) (m_label_1, m_pile_1, m_parts_1) h rfl dX6_label_35
    · replace h := h.1 c_1
      refine v_bipush C (-2) dX6_label_15 (by decide) ?_
      exact hret _ _ _ (-2) (label, pile, parts) h rfl dX6_label_17
-- QuarterMasksModel.partBy
def rmX6_partBy : Room := { frames := 5, cells := 0, slots := 0, locals := 133 }
theorem kX6_partBy : yX6_partBy.cls = RX6 ∧ yX6_partBy.cls ≠ "java/lang/invoke/MethodHandle" ∧ yX6_partBy.cls ≠ "java/lang/invoke/VarHandle" ∧ (parseMethodDescriptor yX6_partBy.desc).map (fun d => d.parameters.length) = some 3 := by decide +kernel
theorem mX6_partBy_w1 : Cond.fieldLink RX6 34 "QuarterMasksModel" "label" "[I" ∈ wsX6_partBy := List.mem_of_getElem? (i := 1) rfl
theorem iX6_partBy_6 : ∀ w ∈ wsX60, w ∈ wsX6_partBy := fun w h => List.mem_cons_of_mem _ (List.mem_append_right _ h)
def wx_Md_partBy_111 (a3 : Int32) (Q : Int32 → Prop) (x10_2 : Int32) (x9_2 : Int32) (x8_2 : Int32) (x7_2 : Int32) (x6_2 : Int32) (x5_2 : Int32) (x4_2 : Int32) : Prop :=
  (a3 = 0 → (Q x4_2)) ∧ (¬ a3 = 0 → ((a3 = 1 → (Q x5_2)) ∧ (¬ a3 = 1 → ((a3 = 2 → (Q x6_2)) ∧ (¬ a3 = 2 → ((a3 = 3 → (Q x7_2)) ∧ (¬ a3 = 3 → ((a3 = 4 → (Q x8_2)) ∧ (¬ a3 = 4 → (Q x9_2))))))))))
def wl_Md_partBy_23 (rows : IA) (label : IA) (a1 : Int32) (a2 : Int32) (Kx_1 : Int32 → Int32 → Int32 → Int32 → Int32 → Int32 → Int32 → Prop) : Nat → Int32 → Int32 → Int32 → Int32 → Int32 → Int32 → Int32 → Prop
  | 0, _, _, _, _, _, _, _ => False
  | n + 1, x10_1, x9_1, x8_1, x7_1, x6_1, x5_1, x4_1 => (256 ≤ x10_1 → (Kx_1 x10_1 x9_1 x8_1 x7_1 x6_1 x5_1 x4_1)) ∧ (¬ 256 ≤ x10_1 → (vp_in x10_1 256 ∧ (jn (fun (x9_3 : Int32) (x8_3 : Int32) (x7_3 : Int32) (x6_3 : Int32) (x5_3 : Int32) (x4_3 : Int32) => (wl_Md_partBy_23 rows label a1 a2 Kx_1 n) (x10_1 + 1) x9_3 x8_3 x7_3 x6_3 x5_3 x4_3) (fun K_1 : Int32 → Int32 → Int32 → Int32 → Int32 → Int32 → Prop => ((label x10_1.toNatClampNeg) = a2 → (wp_Md_borderAt rows a1 x10_1 (fun r_1 => ∀ x5_4 : Int32, x5_4 = (x5_1 + r_1) → (wp_Md_lesser (jrem x10_1 16) x6_1 (fun r_2 => wp_Md_lesser (x10_1 / 16) x7_1 (fun r_3 => wp_Md_greater (jrem x10_1 16) x8_1 (fun r_4 => wp_Md_greater (x10_1 / 16) x9_1 (fun r_5 => K_1 r_5 r_4 r_3 r_2 x5_4 (x4_1 + 1))))))))) ∧ (¬ (label x10_1.toNatClampNeg) = a2 → (K_1 x9_1 x8_1 x7_1 x6_1 x5_1 x4_1))))))
def wp_Md_partBy (rows : IA) (label : IA) (a1 : Int32) (a2 : Int32) (a3 : Int32) (Q : Int32 → Prop) : Prop :=
  ∃ k_1 : Nat, wl_Md_partBy_23 rows label a1 a2 (wx_Md_partBy_111 a3 Q) k_1 0 (-1) (-1) 16 16 0 0
set_option maxHeartbeats 4000000 in
theorem c_Md_partBy (l : Launch) (G : GG) (ad : Nat → Nat) (forms : IA) (sizes : IA) (items : IA) (moved : IA) (latest : Int32) (rows : IA) (fresh : IA) (oldMask : IA) (oldRows : IA) (known : Int32) (drawn : Int32) (label : IA) (pile : IA) (parts : Int32) (waitX : IA) (waitY : IA) (waitSide : IA) (waits : Int32) (sign : IA) (signs : Int32) (many : IA) (a1 : Int32) (a2 : Int32) (a3 : Int32) {Q : Int32 → Prop} (h : wp_Md_partBy rows label a1 a2 a3 Q) : qm_MI l yX6_partBy wsX6_partBy rmX6_partBy G [.ref (ad 0), .int a1, .int a2, .int a3] (mw G ad forms sizes items moved latest rows fresh oldMask oldRows known drawn label pile parts waitX waitY waitSide waits sign signs many) (fun (r : Int32) (_ : Unit) => Q r) (fun (_ : Unit) => mw G ad forms sizes items moved latest rows fresh oldMask oldRows known drawn label pile parts waitX waitY waitSide waits sign signs many) := by
  refine qm_mkI (cc := cX6_partBy) (maxL := 11) (by decide) rfl (Nat.le_of_ble_eq_true rfl) ?_
  intro X C hret
  replace C : qm_C G 11 X cX6_partBy wsX6_partBy RX6 := C
  refine v_lv (lv' := [(0, .ref (ad 0)), (1, .int a1), (2, .int a2), (3, .int a3)]) rfl ?_
  unfold wp_Md_partBy at h
  refine v_iconst C 0 dX6_partBy_0 (by decide) ?_
  refine v_istore C [(4, .int 0), (0, .ref (ad 0)), (1, .int a1), (2, .int a2), (3, .int a3)] dX6_partBy_1 (by decide) rfl ?_
  refine v_iconst C 0 dX6_partBy_3 (by decide) ?_
  refine v_istore C [(5, .int 0), (4, .int 0), (0, .ref (ad 0)), (1, .int a1), (2, .int a2), (3, .int a3)] dX6_partBy_4 (by decide) rfl ?_
  refine v_bipush C 16 dX6_partBy_6 (by decide) ?_
  refine v_istore C [(6, .int 16), (5, .int 0), (4, .int 0), (0, .ref (ad 0)), (1, .int a1), (2, .int a2), (3, .int a3)] dX6_partBy_8 (by decide) rfl ?_
  refine v_bipush C 16 dX6_partBy_10 (by decide) ?_
  refine v_istore C [(7, .int 16), (6, .int 16), (5, .int 0), (4, .int 0), (0, .ref (ad 0)), (1, .int a1), (2, .int a2), (3, .int a3)] dX6_partBy_12 (by decide) rfl ?_
  refine v_iconst C (-1) dX6_partBy_14 (by decide) ?_
  refine v_istore C [(8, .int (-1)), (7, .int 16), (6, .int 16), (5, .int 0), (4, .int 0), (0, .ref (ad 0)), (1, .int a1), (2, .int a2), (3, .int a3)] dX6_partBy_15 (by decide) rfl ?_
  refine v_iconst C (-1) dX6_partBy_17 (by decide) ?_
  refine v_istore C [(9, .int (-1)), (8, .int (-1)), (7, .int 16), (6, .int 16), (5, .int 0), (4, .int 0), (0, .ref (ad 0)), (1, .int a1), (2, .int a2), (3, .int a3)] dX6_partBy_18 (by decide) rfl ?_
  refine v_iconst C 0 dX6_partBy_20 (by decide) ?_
  refine v_istore C [(10, .int 0), (9, .int (-1)), (8, .int (-1)), (7, .int 16), (6, .int 16), (5, .int 0), (4, .int 0), (0, .ref (ad 0)), (1, .int a1), (2, .int a2), (3, .int a3)] dX6_partBy_21 (by decide) rfl ?_
  have hx_1 : ∀ (x10_2 : Int32) (x9_2 : Int32) (x8_2 : Int32) (x7_2 : Int32) (x6_2 : Int32) (x5_2 : Int32) (x4_2 : Int32), (wx_Md_partBy_111 a3 Q) x10_2 x9_2 x8_2 x7_2 x6_2 x5_2 x4_2 → qm_V l G rmX6_partBy 11 X (mw G ad forms sizes items moved latest rows fresh oldMask oldRows known drawn label pile parts waitX waitY waitSide waits sign signs many) [(10, .int x10_2), (9, .int x9_2), (8, .int x8_2), (7, .int x7_2), (6, .int x6_2), (5, .int x5_2), (4, .int x4_2), (0, .ref (ad 0)), (1, .int a1), (2, .int a2), (3, .int a3)] 111 [] := by
    intro x10_2 x9_2 x8_2 x7_2 x6_2 x5_2 x4_2 h
    unfold wx_Md_partBy_111 at h
    refine v_iload_n C dX6_partBy_111 rfl 10 rfl ?_
    by_cases c_1 : a3 = 0
    · replace h := h.1 c_1
      refine v_tin C 0 148 c_1 dX6_partBy_112 (by decide) rfl (by decide) ?_
      refine v_iload C dX6_partBy_148 6 rfl ?_
      exact hret _ _ _ x4_2 () h rfl dX6_partBy_150
    · replace h := h.2 c_1
      by_cases c_2 : a3 = 1
      · replace h := h.1 c_2
        refine v_tin C 1 151 c_2 dX6_partBy_112 (by decide) rfl (by decide) ?_
        refine v_iload C dX6_partBy_151 5 rfl ?_
        exact hret _ _ _ x5_2 () h rfl dX6_partBy_153
      · replace h := h.2 c_2
        by_cases c_3 : a3 = 2
        · replace h := h.1 c_3
          refine v_tin C 2 154 c_3 dX6_partBy_112 (by decide) rfl (by decide) ?_
          refine v_iload C dX6_partBy_154 4 rfl ?_
          exact hret _ _ _ x6_2 () h rfl dX6_partBy_156
        · replace h := h.2 c_3
          by_cases c_4 : a3 = 3
          · replace h := h.1 c_4
            refine v_tin C 3 157 c_4 dX6_partBy_112 (by decide) rfl (by decide) ?_
            refine v_iload C dX6_partBy_157 3 rfl ?_
            exact hret _ _ _ x7_2 () h rfl dX6_partBy_159
          · replace h := h.2 c_4
            by_cases c_5 : a3 = 4
            · replace h := h.1 c_5
              refine v_tin C 4 160 c_5 dX6_partBy_112 (by decide) rfl (by decide) ?_
              refine v_iload C dX6_partBy_160 2 rfl ?_
              exact hret _ _ _ x8_2 () h rfl dX6_partBy_162
            · replace h := h.2 c_5
              have n112_0 := lv_neT c_1 (a := 0) (by decide)
              have n112_1 := lv_neT c_2 (a := 1) (by decide)
              have n112_2 := lv_neT c_3 (a := 2) (by decide)
              have n112_3 := lv_neT c_4 (a := 3) (by decide)
              have n112_4 := lv_neT c_5 (a := 4) (by decide)
              refine v_tout C 163 dX6_partBy_112 (by omega) (by decide) ?_
              refine v_iload C dX6_partBy_163 1 rfl ?_
              exact hret _ _ _ x9_2 () h rfl dX6_partBy_165
  have hl_1 : ∀ n_1 : Nat, ∀ (x10_1 : Int32) (x9_1 : Int32) (x8_1 : Int32) (x7_1 : Int32) (x6_1 : Int32) (x5_1 : Int32) (x4_1 : Int32), wl_Md_partBy_23 rows label a1 a2 (wx_Md_partBy_111 a3 Q) n_1 x10_1 x9_1 x8_1 x7_1 x6_1 x5_1 x4_1 → qm_V l G rmX6_partBy 11 X (mw G ad forms sizes items moved latest rows fresh oldMask oldRows known drawn label pile parts waitX waitY waitSide waits sign signs many) [(10, .int x10_1), (9, .int x9_1), (8, .int x8_1), (7, .int x7_1), (6, .int x6_1), (5, .int x5_1), (4, .int x4_1), (0, .ref (ad 0)), (1, .int a1), (2, .int a2), (3, .int a3)] 23 [] := by
    intro n_1
    induction n_1 with
    | zero =>
      intro x10_1 x9_1 x8_1 x7_1 x6_1 x5_1 x4_1 h
      exact False.elim h
    | succ n_1 ih_1 =>
      intro x10_1 x9_1 x8_1 x7_1 x6_1 x5_1 x4_1 h
      rw [wl_Md_partBy_23] at h
      refine v_iload C dX6_partBy_23 0 rfl ?_
      refine v_sipush C 256 dX6_partBy_25 (by decide) ?_
      refine v_icmp_ge C 111 dX6_partBy_28 (by decide) (fun c_7 => ?_) (fun c_7 => ?_)
      · replace h := h.1 c_7
        exact hx_1 x10_1 x9_1 x8_1 x7_1 x6_1 x5_1 x4_1 h
      · replace h := h.2 c_7
        refine v_aload_n C dX6_partBy_31 rfl 7 rfl ?_
        refine v_get C iX6_partBy_6 0 rfl rfl 11 (by decide) mX6_partBy_w1 rfl rfl dX6_partBy_32 ?_
        refine v_iload C dX6_partBy_35 0 rfl ?_
        obtain ⟨hin_1, h⟩ := h
        refine v_iald C 9 rfl hin_1 dX6_partBy_37 ?_
        refine v_iload_n C dX6_partBy_38 rfl 9 rfl ?_
        have hJ_1 : ∀ (x9_3 : Int32) (x8_3 : Int32) (x7_3 : Int32) (x6_3 : Int32) (x5_3 : Int32) (x4_3 : Int32), (fun (x9_3 : Int32) (x8_3 : Int32) (x7_3 : Int32) (x6_3 : Int32) (x5_3 : Int32) (x4_3 : Int32) => (wl_Md_partBy_23 rows label a1 a2 (wx_Md_partBy_111 a3 Q) n_1) (x10_1 + 1) x9_3 x8_3 x7_3 x6_3 x5_3 x4_3) x9_3 x8_3 x7_3 x6_3 x5_3 x4_3 → qm_V l G rmX6_partBy 11 X (mw G ad forms sizes items moved latest rows fresh oldMask oldRows known drawn label pile parts waitX waitY waitSide waits sign signs many) [(10, .int x10_1), (9, .int x9_3), (8, .int x8_3), (7, .int x7_3), (6, .int x6_3), (5, .int x5_3), (4, .int x4_3), (0, .ref (ad 0)), (1, .int a1), (2, .int a2), (3, .int a3)] 105 [] := by
          intro x9_3 x8_3 x7_3 x6_3 x5_3 x4_3 h
          try dsimp only at h
          refine v_iinc C (x10_1 + 1) 0 [(10, .int (x10_1 + 1)), (9, .int x9_3), (8, .int x8_3), (7, .int x7_3), (6, .int x6_3), (5, .int x5_3), (4, .int x4_3), (0, .ref (ad 0)), (1, .int a1), (2, .int a2), (3, .int a3)] dX6_partBy_105 rfl rfl (by decide) rfl ?_
          refine v_goto C 23 dX6_partBy_108 (by decide) ?_
          exact ih_1 (x10_1 + 1) x9_3 x8_3 x7_3 x6_3 x5_3 x4_3 h
        replace h := jn_use h
        try dsimp only at h
        refine v_icmp_ne C 105 dX6_partBy_39 (by decide) (fun c_6 => ?_) (fun c_6 => ?_)
        · replace h := h.2 c_6
          exact hJ_1 x9_1 x8_1 x7_1 x6_1 x5_1 x4_1 h
        · replace h := h.1 c_6
          refine v_iinc C (x4_1 + 1) 6 [(4, .int (x4_1 + 1)), (10, .int x10_1), (9, .int x9_1), (8, .int x8_1), (7, .int x7_1), (6, .int x6_1), (5, .int x5_1), (0, .ref (ad 0)), (1, .int a1), (2, .int a2), (3, .int a3)] dX6_partBy_42 rfl rfl (by decide) rfl ?_
          refine v_iload C dX6_partBy_45 6 rfl ?_
          refine v_aload_n C dX6_partBy_47 rfl 7 rfl ?_
          refine v_iload_n C dX6_partBy_48 rfl 8 rfl ?_
          refine v_iload C dX6_partBy_49 1 rfl ?_
          refine v_callVi C (c_Md_borderAt l G ad forms sizes items moved latest rows fresh oldMask oldRows known drawn label pile parts waitX waitY waitSide waits sign signs many a1 x10_1 h) 0 rfl rfl gX6_partBy_X6_borderAt rfl kX6_borderAt ⟨rfl, rfl⟩ ⟨Nat.le_of_ble_eq_true rfl, Nat.le_of_ble_eq_true rfl⟩ rfl (Nat.le_of_ble_eq_true rfl) dX6_partBy_51 (fun r_1 _ h => ?_)
          try dsimp only at h
          refine v_iadd C dX6_partBy_54 ?_
          refine v_topi (fun x5_4 ex5_4 => ?_)
          replace h := h x5_4 ex5_4
          refine v_istore C [(5, .int x5_4), (4, .int (x4_1 + 1)), (10, .int x10_1), (9, .int x9_1), (8, .int x8_1), (7, .int x7_1), (6, .int x6_1), (0, .ref (ad 0)), (1, .int a1), (2, .int a2), (3, .int a3)] dX6_partBy_55 (by decide) rfl ?_
          refine v_iload C dX6_partBy_57 2 rfl ?_
          refine v_bipush C 16 dX6_partBy_59 (by decide) ?_
          refine v_irem C dX6_partBy_61 (by decide) ?_
          refine v_iload C dX6_partBy_62 6 rfl ?_
          refine v_callSi C (c_Md_lesser l G (mw G ad forms sizes items moved latest rows fresh oldMask oldRows known drawn label pile parts waitX waitY waitSide waits sign signs many) (jrem x10_1 16) x6_1 h) gX6_partBy_X6_lesser rfl kX6_lesser ⟨rfl, rfl⟩ ⟨Nat.le_of_ble_eq_true rfl, Nat.le_of_ble_eq_true rfl⟩ rfl (Nat.le_of_ble_eq_true rfl) dX6_partBy_64 (fun r_2 _ h => ?_)
          try dsimp only at h
          refine v_istore C [(6, .int r_2), (5, .int x5_4), (4, .int (x4_1 + 1)), (10, .int x10_1), (9, .int x9_1), (8, .int x8_1), (7, .int x7_1), (0, .ref (ad 0)), (1, .int a1), (2, .int a2), (3, .int a3)] dX6_partBy_67 (by decide) rfl ?_
          refine v_iload C dX6_partBy_69 3 rfl ?_
          refine v_bipush C 16 dX6_partBy_71 (by decide) ?_
          refine v_idiv C dX6_partBy_73 (by decide) ?_
          refine v_iload C dX6_partBy_74 6 rfl ?_
          refine v_callSi C (c_Md_lesser l G (mw G ad forms sizes items moved latest rows fresh oldMask oldRows known drawn label pile parts waitX waitY waitSide waits sign signs many) (x10_1 / 16) x7_1 h) gX6_partBy_X6_lesser rfl kX6_lesser ⟨rfl, rfl⟩ ⟨Nat.le_of_ble_eq_true rfl, Nat.le_of_ble_eq_true rfl⟩ rfl (Nat.le_of_ble_eq_true rfl) dX6_partBy_76 (fun r_3 _ h => ?_)
          try dsimp only at h
          refine v_istore C [(7, .int r_3), (6, .int r_2), (5, .int x5_4), (4, .int (x4_1 + 1)), (10, .int x10_1), (9, .int x9_1), (8, .int x8_1), (0, .ref (ad 0)), (1, .int a1), (2, .int a2), (3, .int a3)] dX6_partBy_79 (by decide) rfl ?_
          refine v_iload C dX6_partBy_81 4 rfl ?_
          refine v_bipush C 16 dX6_partBy_83 (by decide) ?_
          refine v_irem C dX6_partBy_85 (by decide) ?_
          refine v_iload C dX6_partBy_86 6 rfl ?_
          refine v_callSi C (c_Md_greater l G (mw G ad forms sizes items moved latest rows fresh oldMask oldRows known drawn label pile parts waitX waitY waitSide waits sign signs many) (jrem x10_1 16) x8_1 h) gX6_partBy_X6_greater rfl kX6_greater ⟨rfl, rfl⟩ ⟨Nat.le_of_ble_eq_true rfl, Nat.le_of_ble_eq_true rfl⟩ rfl (Nat.le_of_ble_eq_true rfl) dX6_partBy_88 (fun r_4 _ h => ?_)
          try dsimp only at h
          refine v_istore C [(8, .int r_4), (7, .int r_3), (6, .int r_2), (5, .int x5_4), (4, .int (x4_1 + 1)), (10, .int x10_1), (9, .int x9_1), (0, .ref (ad 0)), (1, .int a1), (2, .int a2), (3, .int a3)] dX6_partBy_91 (by decide) rfl ?_
          refine v_iload C dX6_partBy_93 5 rfl ?_
          refine v_bipush C 16 dX6_partBy_95 (by decide) ?_
          refine v_idiv C dX6_partBy_97 (by decide) ?_
          refine v_iload C dX6_partBy_98 6 rfl ?_
          refine v_callSi C (c_Md_greater l G (mw G ad forms sizes items moved latest rows fresh oldMask oldRows known drawn label pile parts waitX waitY waitSide waits sign signs many) (x10_1 / 16) x9_1 h) gX6_partBy_X6_greater rfl kX6_greater ⟨rfl, rfl⟩ ⟨Nat.le_of_ble_eq_true rfl, Nat.le_of_ble_eq_true rfl⟩ rfl (Nat.le_of_ble_eq_true rfl) dX6_partBy_100 (fun r_5 _ h => ?_)
          try dsimp only at h
          refine v_istore C [(9, .int r_5), (8, .int r_4), (7, .int r_3), (6, .int r_2), (5, .int x5_4), (4, .int (x4_1 + 1)), (10, .int x10_1), (0, .ref (ad 0)), (1, .int a1), (2, .int a2), (3, .int a3)] dX6_partBy_103 (by decide) rfl ?_
          refine v_perm [6, 0, 1, 2, 3, 4, 5, 7, 8, 9, 10] rfl ?_
          exact hJ_1 r_5 r_4 r_3 r_2 x5_4 (x4_1 + 1) h
  obtain ⟨k_1, h⟩ := h
  exact hl_1 k_1 0 (-1) (-1) 16 16 0 0 h
-- QuarterMasksModel.partOr
def rmX6_partOr : Room := { frames := 6, cells := 0, slots := 0, locals := 163 }
theorem kX6_partOr : yX6_partOr.cls = RX6 ∧ yX6_partOr.cls ≠ "java/lang/invoke/MethodHandle" ∧ yX6_partOr.cls ≠ "java/lang/invoke/VarHandle" ∧ (parseMethodDescriptor yX6_partOr.desc).map (fun d => d.parameters.length) = some 3 := by decide +kernel
theorem mX6_partOr_w1 : Cond.fieldLink RX6 144 "QuarterMasksModel" "parts" "I" ∈ wsX6_partOr := List.mem_of_getElem? (i := 1) rfl
theorem iX6_partOr_6 : ∀ w ∈ wsX60, w ∈ wsX6_partOr := fun w h => List.mem_cons_of_mem _ (List.mem_append_right _ h)
theorem mX6_partOr_w2 : Cond.constantLong RX6 217 (5) ∈ wsX6_partOr := List.mem_of_getElem? (i := 2) rfl
def wp_Md_partOr (rows : IA) (label : IA) (pile : IA) (a1 : Int32) (a2 : Int32) (a3 : Int32) (Q : Int32 → IA → IA → Int32 → Prop) : Prop :=
  wp_Md_labels rows label pile a1 1 (fun m_label_1 m_pile_1 m_parts_1 => wp_Md_in (Int32.toInt64 a2) 0 (Int32.toInt64 (m_parts_1 - 1)) (fun r_1 => (r_1 = 0 → (Q (-2) m_label_1 m_pile_1 m_parts_1)) ∧ (¬ r_1 = 0 → (wp_Md_in (Int32.toInt64 a3) 0 5 (fun r_2 => (r_2 = 0 → (Q (-2) m_label_1 m_pile_1 m_parts_1)) ∧ (¬ r_2 = 0 → (wp_Md_partBy rows m_label_1 a1 a2 a3 (fun r_3 => Q r_3 m_label_1 m_pile_1 m_parts_1))))))))
set_option maxHeartbeats 4000000 in
theorem c_Md_partOr (l : Launch) (G : GG) (ad : Nat → Nat) (forms : IA) (sizes : IA) (items : IA) (moved : IA) (latest : Int32) (rows : IA) (fresh : IA) (oldMask : IA) (oldRows : IA) (known : Int32) (drawn : Int32) (label : IA) (pile : IA) (parts : Int32) (waitX : IA) (waitY : IA) (waitSide : IA) (waits : Int32) (sign : IA) (signs : Int32) (many : IA) (a1 : Int32) (a2 : Int32) (a3 : Int32) {Q : Int32 → IA → IA → Int32 → Prop} (h : wp_Md_partOr rows label pile a1 a2 a3 Q) : qm_MI l yX6_partOr wsX6_partOr rmX6_partOr G [.ref (ad 0), .int a1, .int a2, .int a3] (mw G ad forms sizes items moved latest rows fresh oldMask oldRows known drawn label pile parts waitX waitY waitSide waits sign signs many) (fun (r : Int32) (u : IA × IA × Int32) => Q r u.1 u.2.1 u.2.2) (fun (u : IA × IA × Int32) => mw G ad forms sizes items moved latest rows fresh oldMask oldRows known drawn u.1 u.2.1 u.2.2 waitX waitY waitSide waits sign signs many) := by
  refine qm_mkI (cc := cX6_partOr) (maxL := 4) (by decide) rfl (Nat.le_of_ble_eq_true rfl) ?_
  intro X C hret
  replace C : qm_C G 4 X cX6_partOr wsX6_partOr RX6 := C
  refine v_lv (lv' := [(0, .ref (ad 0)), (1, .int a1), (2, .int a2), (3, .int a3)]) rfl ?_
  unfold wp_Md_partOr at h
  refine v_aload_n C dX6_partOr_0 rfl 0 rfl ?_
  refine v_iload_n C dX6_partOr_1 rfl 1 rfl ?_
  refine v_iconst C 1 dX6_partOr_2 (by decide) ?_
  refine v_callVv C (c_Md_labels l G ad forms sizes items moved latest rows fresh oldMask oldRows known drawn label pile parts waitX waitY waitSide waits sign signs many a1 1 h) 0 rfl rfl gX6_partOr_X6_labels rfl kX6_labels ⟨rfl, rfl⟩ ⟨Nat.le_of_ble_eq_true rfl, Nat.le_of_ble_eq_true rfl⟩ rfl (Nat.le_of_ble_eq_true rfl) dX6_partOr_3 (fun u h => ?_)
  obtain ⟨m_label_1, m_pile_1, m_parts_1⟩ := u
  try dsimp only at h
  refine v_world (ws' := mw G ad forms sizes items moved latest rows fresh oldMask oldRows known drawn m_label_1 m_pile_1 m_parts_1 waitX waitY waitSide waits sign signs many) rfl ?_
  refine v_iload_n C dX6_partOr_6 rfl 2 rfl ?_
  refine v_i2l C dX6_partOr_7 ?_
  refine v_lconst C 0 dX6_partOr_8 (by decide) ?_
  refine v_aload_n C dX6_partOr_9 rfl 0 rfl ?_
  refine v_get C iX6_partOr_6 0 rfl rfl 13 (by decide) mX6_partOr_w1 rfl rfl dX6_partOr_10 ?_
  refine v_iconst C 1 dX6_partOr_13 (by decide) ?_
  refine v_isub C dX6_partOr_14 ?_
  refine v_i2l C dX6_partOr_15 ?_
  refine v_callSi C (c_Md_in l G (mw G ad forms sizes items moved latest rows fresh oldMask oldRows known drawn m_label_1 m_pile_1 m_parts_1 waitX waitY waitSide waits sign signs many) (Int32.toInt64 a2) 0 (Int32.toInt64 (m_parts_1 - 1)) h) gX6_partOr_X6_in rfl kX6_in ⟨rfl, rfl⟩ ⟨Nat.le_of_ble_eq_true rfl, Nat.le_of_ble_eq_true rfl⟩ rfl (Nat.le_of_ble_eq_true rfl) dX6_partOr_16 (fun r_1 _ h => ?_)
  try dsimp only at h
  refine v_if_eq C 44 dX6_partOr_19 (by decide) (fun c_2 => ?_) (fun c_2 => ?_)
  · replace h := h.1 c_2
    refine v_bipush C (-2) dX6_partOr_44 (by decide) ?_
    exact hret _ _ _ (-2) (m_label_1, m_pile_1, m_parts_1) h rfl dX6_partOr_46
  · replace h := h.2 c_2
    refine v_iload_n C dX6_partOr_22 rfl 3 rfl ?_
    refine v_i2l C dX6_partOr_23 ?_
    refine v_lconst C 0 dX6_partOr_24 (by decide) ?_
    refine v_ldc2 C 5 mX6_partOr_w2 dX6_partOr_25 ?_
    refine v_callSi C (c_Md_in l G (mw G ad forms sizes items moved latest rows fresh oldMask oldRows known drawn m_label_1 m_pile_1 m_parts_1 waitX waitY waitSide waits sign signs many) (Int32.toInt64 a3) 0 5 h) gX6_partOr_X6_in rfl kX6_in ⟨rfl, rfl⟩ ⟨Nat.le_of_ble_eq_true rfl, Nat.le_of_ble_eq_true rfl⟩ rfl (Nat.le_of_ble_eq_true rfl) dX6_partOr_28 (fun r_2 _ h => ?_)
    try dsimp only at h
    refine v_if_eq C 44 dX6_partOr_31 (by decide) (fun c_1 => ?_) (fun c_1 => ?_)
    · replace h := h.1 c_1
      refine v_bipush C (-2) dX6_partOr_44 (by decide) ?_
      exact hret _ _ _ (-2) (m_label_1, m_pile_1, m_parts_1) h rfl dX6_partOr_46
    · replace h := h.2 c_1
      refine v_aload_n C dX6_partOr_34 rfl 0 rfl ?_
      refine v_iload_n C dX6_partOr_35 rfl 1 rfl ?_
      refine v_iload_n C dX6_partOr_36 rfl 2 rfl ?_
      refine v_iload_n C dX6_partOr_37 rfl 3 rfl ?_
      refine v_callVi C (c_Md_partBy l G ad forms sizes items moved latest rows fresh oldMask oldRows known drawn m_label_1 m_pile_1 m_parts_1 waitX waitY waitSide waits sign signs many a1 a2 a3 h) 0 rfl rfl gX6_partOr_X6_partBy rfl kX6_partBy ⟨rfl, rfl⟩ ⟨Nat.le_of_ble_eq_true rfl, Nat.le_of_ble_eq_true rfl⟩ rfl (Nat.le_of_ble_eq_true rfl) dX6_partOr_38 (fun r_3 _ h => ?_)
      try dsimp only at h
      refine v_goto C 46 dX6_partOr_41 (by decide) ?_
      exact hret _ _ _ r_3 (m_label_1, m_pile_1, m_parts_1) h rfl dX6_partOr_46
-- QuarterMasksModel.part
def rmX6_part : Room := { frames := 7, cells := 0, slots := 0, locals := 186 }
theorem kX6_part : yX6_part.cls = RX6 ∧ yX6_part.cls ≠ "java/lang/invoke/MethodHandle" ∧ yX6_part.cls ≠ "java/lang/invoke/VarHandle" ∧ (parseMethodDescriptor yX6_part.desc).map (fun d => d.parameters.length) = some 3 := by decide +kernel
def wp_Md_part (rows : IA) (label : IA) (pile : IA) (parts : Int32) (a1 : Int32) (a2 : Int32) (a3 : Int32) (Q : Int32 → IA → IA → Int32 → Prop) : Prop :=
  wp_Md_isMask a1 (fun r_1 => (r_1 = 0 → (Q (-2) label pile parts)) ∧ (¬ r_1 = 0 → (wp_Md_partOr rows label pile a1 a2 a3 (fun r_2 m_label_1 m_pile_1 m_parts_1 => Q r_2 m_label_1 m_pile_1 m_parts_1))))
set_option maxHeartbeats 4000000 in
theorem c_Md_part (l : Launch) (G : GG) (ad : Nat → Nat) (forms : IA) (sizes : IA) (items : IA) (moved : IA) (latest : Int32) (rows : IA) (fresh : IA) (oldMask : IA) (oldRows : IA) (known : Int32) (drawn : Int32) (label : IA) (pile : IA) (parts : Int32) (waitX : IA) (waitY : IA) (waitSide : IA) (waits : Int32) (sign : IA) (signs : Int32) (many : IA) (a1 : Int32) (a2 : Int32) (a3 : Int32) {Q : Int32 → IA → IA → Int32 → Prop} (h : wp_Md_part rows label pile parts a1 a2 a3 Q) : qm_MI l yX6_part wsX6_part rmX6_part G [.ref (ad 0), .int a1, .int a2, .int a3] (mw G ad forms sizes items moved latest rows fresh oldMask oldRows known drawn label pile parts waitX waitY waitSide waits sign signs many) (fun (r : Int32) (u : IA × IA × Int32) => Q r u.1 u.2.1 u.2.2) (fun (u : IA × IA × Int32) => mw G ad forms sizes items moved latest rows fresh oldMask oldRows known drawn u.1 u.2.1 u.2.2 waitX waitY waitSide waits sign signs many) := by
  refine qm_mkI (cc := cX6_part) (maxL := 4) (by decide) rfl (Nat.le_of_ble_eq_true rfl) ?_
  intro X C hret
  replace C : qm_C G 4 X cX6_part wsX6_part RX6 := C
  refine v_lv (lv' := [(0, .ref (ad 0)), (1, .int a1), (2, .int a2), (3, .int a3)]) rfl ?_
  unfold wp_Md_part at h
  refine v_iload_n C dX6_part_0 rfl 1 rfl ?_
  refine v_callSi C (c_Md_isMask l G (mw G ad forms sizes items moved latest rows fresh oldMask oldRows known drawn label pile parts waitX waitY waitSide waits sign signs many) a1 h) gX6_part_X6_isMask rfl kX6_isMask ⟨rfl, rfl⟩ ⟨Nat.le_of_ble_eq_true rfl, Nat.le_of_ble_eq_true rfl⟩ rfl (Nat.le_of_ble_eq_true rfl) dX6_part_1 (fun r_1 _ h => ?_)
  try dsimp only at h
  refine v_if_eq C 17 dX6_part_4 (by decide) (fun c_1 => ?_) (fun c_1 => ?_)
  · replace h := h.1 c_1
    refine v_bipush C (-2) dX6_part_17 (by decide) ?_
    exact hret _ _ _ (-2) (label, pile, parts) h rfl dX6_part_19
  · replace h := h.2 c_1
    refine v_aload_n C dX6_part_7 rfl 0 rfl ?_
    refine v_iload_n C dX6_part_8 rfl 1 rfl ?_
    refine v_iload_n C dX6_part_9 rfl 2 rfl ?_
    refine v_iload_n C dX6_part_10 rfl 3 rfl ?_
    refine v_callVi C (c_Md_partOr l G ad forms sizes items moved latest rows fresh oldMask oldRows known drawn label pile parts waitX waitY waitSide waits sign signs many a1 a2 a3 h) 0 rfl rfl gX6_part_X6_partOr rfl kX6_partOr ⟨rfl, rfl⟩ ⟨Nat.le_of_ble_eq_true rfl, Nat.le_of_ble_eq_true rfl⟩ rfl (Nat.le_of_ble_eq_true rfl) dX6_part_11 (fun r_2 u h => ?_)
    obtain ⟨m_label_1, m_pile_1, m_parts_1⟩ := u
    try dsimp only at h
    refine v_world (ws' := mw G ad forms sizes items moved latest rows fresh oldMask oldRows known drawn m_label_1 m_pile_1 m_parts_1 waitX waitY waitSide waits sign signs many) rfl ?_
    refine v_goto C 19 dX6_part_14 (by decide) ?_
    exact hret _ _ _ r_2 (m_label_1, m_pile_1, m_parts_1) h rfl dX6_part_19
-- QuarterMasksModel.near
def rmX6_near : Room := { frames := 5, cells := 0, slots := 0, locals := 135 }
theorem kX6_near : yX6_near.cls = RX6 ∧ yX6_near.cls ≠ "java/lang/invoke/MethodHandle" ∧ yX6_near.cls ≠ "java/lang/invoke/VarHandle" ∧ (parseMethodDescriptor yX6_near.desc).map (fun d => d.parameters.length) = some 3 := by decide +kernel
def wp_Md_near (rows : IA) (a1 : Int32) (a2 : Int32) (a3 : Int32) (Q : Int32 → Prop) : Prop :=
  wp_Md_isMask a1 (fun r_1 => (r_1 = 0 → (Q (-2))) ∧ (¬ r_1 = 0 → (wp_Md_isCell a2 a3 (fun r_2 => (r_2 = 0 → (Q (-2))) ∧ (¬ r_2 = 0 → (wp_Md_nearOf rows a1 a2 a3 (fun r_3 => Q r_3)))))))
set_option maxHeartbeats 4000000 in
theorem c_Md_near (l : Launch) (G : GG) (ad : Nat → Nat) (forms : IA) (sizes : IA) (items : IA) (moved : IA) (latest : Int32) (rows : IA) (fresh : IA) (oldMask : IA) (oldRows : IA) (known : Int32) (drawn : Int32) (label : IA) (pile : IA) (parts : Int32) (waitX : IA) (waitY : IA) (waitSide : IA) (waits : Int32) (sign : IA) (signs : Int32) (many : IA) (a1 : Int32) (a2 : Int32) (a3 : Int32) {Q : Int32 → Prop} (h : wp_Md_near rows a1 a2 a3 Q) : qm_MI l yX6_near wsX6_near rmX6_near G [.ref (ad 0), .int a1, .int a2, .int a3] (mw G ad forms sizes items moved latest rows fresh oldMask oldRows known drawn label pile parts waitX waitY waitSide waits sign signs many) (fun (r : Int32) (_ : Unit) => Q r) (fun (_ : Unit) => mw G ad forms sizes items moved latest rows fresh oldMask oldRows known drawn label pile parts waitX waitY waitSide waits sign signs many) := by
  refine qm_mkI (cc := cX6_near) (maxL := 4) (by decide) rfl (Nat.le_of_ble_eq_true rfl) ?_
  intro X C hret
  replace C : qm_C G 4 X cX6_near wsX6_near RX6 := C
  refine v_lv (lv' := [(0, .ref (ad 0)), (1, .int a1), (2, .int a2), (3, .int a3)]) rfl ?_
  unfold wp_Md_near at h
  refine v_iload_n C dX6_near_0 rfl 1 rfl ?_
  refine v_callSi C (c_Md_isMask l G (mw G ad forms sizes items moved latest rows fresh oldMask oldRows known drawn label pile parts waitX waitY waitSide waits sign signs many) a1 h) gX6_near_X6_isMask rfl kX6_isMask ⟨rfl, rfl⟩ ⟨Nat.le_of_ble_eq_true rfl, Nat.le_of_ble_eq_true rfl⟩ rfl (Nat.le_of_ble_eq_true rfl) dX6_near_1 (fun r_1 _ h => ?_)
  try dsimp only at h
  refine v_if_eq C 25 dX6_near_4 (by decide) (fun c_2 => ?_) (fun c_2 => ?_)
  · replace h := h.1 c_2
    refine v_bipush C (-2) dX6_near_25 (by decide) ?_
    exact hret _ _ _ (-2) () h rfl dX6_near_27
  · replace h := h.2 c_2
    refine v_iload_n C dX6_near_7 rfl 2 rfl ?_
    refine v_iload_n C dX6_near_8 rfl 3 rfl ?_
    refine v_callSi C (c_Md_isCell l G (mw G ad forms sizes items moved latest rows fresh oldMask oldRows known drawn label pile parts waitX waitY waitSide waits sign signs many) a2 a3 h) gX6_near_X6_isCell rfl kX6_isCell ⟨rfl, rfl⟩ ⟨Nat.le_of_ble_eq_true rfl, Nat.le_of_ble_eq_true rfl⟩ rfl (Nat.le_of_ble_eq_true rfl) dX6_near_9 (fun r_2 _ h => ?_)
    try dsimp only at h
    refine v_if_eq C 25 dX6_near_12 (by decide) (fun c_1 => ?_) (fun c_1 => ?_)
    · replace h := h.1 c_1
      refine v_bipush C (-2) dX6_near_25 (by decide) ?_
      exact hret _ _ _ (-2) () h rfl dX6_near_27
    · replace h := h.2 c_1
      refine v_aload_n C dX6_near_15 rfl 0 rfl ?_
      refine v_iload_n C dX6_near_16 rfl 1 rfl ?_
      refine v_iload_n C dX6_near_17 rfl 2 rfl ?_
      refine v_iload_n C dX6_near_18 rfl 3 rfl ?_
      refine v_callVi C (c_Md_nearOf l G ad forms sizes items moved latest rows fresh oldMask oldRows known drawn label pile parts waitX waitY waitSide waits sign signs many a1 a2 a3 h) 0 rfl rfl gX6_near_X6_nearOf rfl kX6_nearOf ⟨rfl, rfl⟩ ⟨Nat.le_of_ble_eq_true rfl, Nat.le_of_ble_eq_true rfl⟩ rfl (Nat.le_of_ble_eq_true rfl) dX6_near_19 (fun r_3 _ h => ?_)
      try dsimp only at h
      refine v_goto C 27 dX6_near_22 (by decide) ?_
      exact hret _ _ _ r_3 () h rfl dX6_near_27
-- QuarterMasksModel.bothBy
def rmX6_bothBy : Room := { frames := 4, cells := 0, slots := 0, locals := 109 }
theorem kX6_bothBy : yX6_bothBy.cls = RX6 ∧ yX6_bothBy.cls ≠ "java/lang/invoke/MethodHandle" ∧ yX6_bothBy.cls ≠ "java/lang/invoke/VarHandle" ∧ (parseMethodDescriptor yX6_bothBy.desc).map (fun d => d.parameters.length) = some 3 := by decide +kernel
def wx_Md_bothBy_181 (a3 : Int32) (Q : Int32 → Prop) (x8_2 : Int32) (x7_2 : Int32) (x6_2 : Int32) (x5_2 : Int32) (x4_2 : Int32) : Prop :=
  (a3 = 2 → (Q x6_2)) ∧ (¬ a3 = 2 → ((a3 = 0 → ((x4_2 = 0 → (Q 0)) ∧ (¬ x4_2 = 0 → (Q 1)))) ∧ (¬ a3 = 0 → ((a3 = 1 → ((x5_2 = 0 → (Q 0)) ∧ (¬ x5_2 = 0 → (Q 1)))) ∧ (¬ a3 = 1 → ((x7_2 = 0 → (Q 0)) ∧ (¬ x7_2 = 0 → (Q 1))))))))
def wj_Md_bothBy_95 (rows : IA) (a2 : Int32) (x8_1 : Int32) (x7_1 : Int32) (x6_1 : Int32) (Kh_1 : Int32 → Int32 → Int32 → Int32 → Int32 → Prop) (x9_1 : Int32) (x10_1 : Int32) (r_1 : Int32) (r_2 : Int32) (t_1 : Int32) (t_2 : Int32) : Prop :=
  ∀ x6_3 : Int32, x6_3 = (x6_1 + (r_1 &&& r_2)) → (jn (fun (t_3 : Int32) => Kh_1 (x8_1 + 1) t_3 x6_3 t_2 t_1) (fun K_1 : Int32 → Prop => (x7_1 = 0 → (jn (K_1 0) (fun K_2 : Prop => (r_1 = 1 → (wp_Md_dark rows a2 (x9_1 + 1) x10_1 (fun r_3 => wp_Md_dark rows a2 (x9_1 - 1) x10_1 (fun r_4 => wp_Md_dark rows a2 x9_1 (x10_1 + 1) (fun r_5 => wp_Md_dark rows a2 x9_1 (x10_1 - 1) (fun r_6 => ((((r_3 + r_4) + r_5) + r_6) ≤ 0 → (K_2)) ∧ (¬ (((r_3 + r_4) + r_5) + r_6) ≤ 0 → (K_1 1)))))))) ∧ (¬ r_1 = 1 → (K_2))))) ∧ (¬ x7_1 = 0 → (K_1 1))))
def wj_Md_bothBy_76 (rows : IA) (a2 : Int32) (x8_1 : Int32) (x7_1 : Int32) (x6_1 : Int32) (x5_1 : Int32) (Kh_1 : Int32 → Int32 → Int32 → Int32 → Int32 → Prop) (x9_1 : Int32) (x10_1 : Int32) (r_1 : Int32) (r_2 : Int32) (t_1 : Int32) : Prop :=
  jn (wj_Md_bothBy_95 rows a2 x8_1 x7_1 x6_1 Kh_1 x9_1 x10_1 r_1 r_2 t_1) (fun K_3 : Int32 → Prop => (x5_1 = 0 → (K_3 0)) ∧ (¬ x5_1 = 0 → ((r_2 < r_1 → (K_3 0)) ∧ (¬ r_2 < r_1 → (K_3 1)))))
def wl_Md_bothBy_15 (rows : IA) (a1 : Int32) (a2 : Int32) (Kx_1 : Int32 → Int32 → Int32 → Int32 → Int32 → Prop) : Nat → Int32 → Int32 → Int32 → Int32 → Int32 → Prop
  | 0, _, _, _, _, _ => False
  | n + 1, x8_1, x7_1, x6_1, x5_1, x4_1 => (256 ≤ x8_1 → (Kx_1 x8_1 x7_1 x6_1 x5_1 x4_1)) ∧ (¬ 256 ≤ x8_1 → (∀ x9_1 : Int32, x9_1 = (jrem x8_1 16) → (∀ x10_1 : Int32, x10_1 = (x8_1 / 16) → (wp_Md_dark rows a1 x9_1 x10_1 (fun r_1 => wp_Md_dark rows a2 x9_1 x10_1 (fun r_2 => jn (wj_Md_bothBy_76 rows a2 x8_1 x7_1 x6_1 x5_1 (wl_Md_bothBy_15 rows a1 a2 Kx_1 n) x9_1 x10_1 r_1 r_2) (fun K_4 : Int32 → Prop => (x4_1 = 0 → (K_4 0)) ∧ (¬ x4_1 = 0 → ((r_1 = r_2 → (K_4 1)) ∧ (¬ r_1 = r_2 → (K_4 0)))))))))))
def wp_Md_bothBy (rows : IA) (a1 : Int32) (a2 : Int32) (a3 : Int32) (Q : Int32 → Prop) : Prop :=
  ∃ k_1 : Nat, wl_Md_bothBy_15 rows a1 a2 (wx_Md_bothBy_181 a3 Q) k_1 0 0 0 1 1
set_option maxHeartbeats 4000000 in
theorem c_Md_bothBy (l : Launch) (G : GG) (ad : Nat → Nat) (forms : IA) (sizes : IA) (items : IA) (moved : IA) (latest : Int32) (rows : IA) (fresh : IA) (oldMask : IA) (oldRows : IA) (known : Int32) (drawn : Int32) (label : IA) (pile : IA) (parts : Int32) (waitX : IA) (waitY : IA) (waitSide : IA) (waits : Int32) (sign : IA) (signs : Int32) (many : IA) (a1 : Int32) (a2 : Int32) (a3 : Int32) {Q : Int32 → Prop} (h : wp_Md_bothBy rows a1 a2 a3 Q) : qm_MI l yX6_bothBy wsX6_bothBy rmX6_bothBy G [.ref (ad 0), .int a1, .int a2, .int a3] (mw G ad forms sizes items moved latest rows fresh oldMask oldRows known drawn label pile parts waitX waitY waitSide waits sign signs many) (fun (r : Int32) (_ : Unit) => Q r) (fun (_ : Unit) => mw G ad forms sizes items moved latest rows fresh oldMask oldRows known drawn label pile parts waitX waitY waitSide waits sign signs many) := by
  refine qm_mkI (cc := cX6_bothBy) (maxL := 13) (by decide) rfl (Nat.le_of_ble_eq_true rfl) ?_
  intro X C hret
  replace C : qm_C G 13 X cX6_bothBy wsX6_bothBy RX6 := C
  refine v_lv (lv' := [(0, .ref (ad 0)), (1, .int a1), (2, .int a2), (3, .int a3)]) rfl ?_
  unfold wp_Md_bothBy at h
  refine v_iconst C 1 dX6_bothBy_0 (by decide) ?_
  refine v_istore C [(4, .int 1), (0, .ref (ad 0)), (1, .int a1), (2, .int a2), (3, .int a3)] dX6_bothBy_1 (by decide) rfl ?_
  refine v_iconst C 1 dX6_bothBy_3 (by decide) ?_
  refine v_istore C [(5, .int 1), (4, .int 1), (0, .ref (ad 0)), (1, .int a1), (2, .int a2), (3, .int a3)] dX6_bothBy_4 (by decide) rfl ?_
  refine v_iconst C 0 dX6_bothBy_6 (by decide) ?_
  refine v_istore C [(6, .int 0), (5, .int 1), (4, .int 1), (0, .ref (ad 0)), (1, .int a1), (2, .int a2), (3, .int a3)] dX6_bothBy_7 (by decide) rfl ?_
  refine v_iconst C 0 dX6_bothBy_9 (by decide) ?_
  refine v_istore C [(7, .int 0), (6, .int 0), (5, .int 1), (4, .int 1), (0, .ref (ad 0)), (1, .int a1), (2, .int a2), (3, .int a3)] dX6_bothBy_10 (by decide) rfl ?_
  refine v_iconst C 0 dX6_bothBy_12 (by decide) ?_
  refine v_istore C [(8, .int 0), (7, .int 0), (6, .int 0), (5, .int 1), (4, .int 1), (0, .ref (ad 0)), (1, .int a1), (2, .int a2), (3, .int a3)] dX6_bothBy_13 (by decide) rfl ?_
  have hx_1 : ∀ (x8_2 : Int32) (x7_2 : Int32) (x6_2 : Int32) (x5_2 : Int32) (x4_2 : Int32), (wx_Md_bothBy_181 a3 Q) x8_2 x7_2 x6_2 x5_2 x4_2 → qm_V l G rmX6_bothBy 13 X (mw G ad forms sizes items moved latest rows fresh oldMask oldRows known drawn label pile parts waitX waitY waitSide waits sign signs many) [(8, .int x8_2), (7, .int x7_2), (6, .int x6_2), (5, .int x5_2), (4, .int x4_2), (0, .ref (ad 0)), (1, .int a1), (2, .int a2), (3, .int a3)] 181 [] := by
    intro x8_2 x7_2 x6_2 x5_2 x4_2 h
    unfold wx_Md_bothBy_181 at h
    refine v_iload_n C dX6_bothBy_181 rfl 8 rfl ?_
    refine v_iconst C 2 dX6_bothBy_182 (by decide) ?_
    refine v_icmp_ne C 191 dX6_bothBy_183 (by decide) (fun c_6 => ?_) (fun c_6 => ?_)
    · replace h := h.2 c_6
      refine v_iload_n C dX6_bothBy_191 rfl 8 rfl ?_
      refine v_if_ne C 203 dX6_bothBy_192 (by decide) (fun c_5 => ?_) (fun c_5 => ?_)
      · replace h := h.2 c_5
        refine v_iload_n C dX6_bothBy_203 rfl 8 rfl ?_
        refine v_iconst C 1 dX6_bothBy_204 (by decide) ?_
        refine v_icmp_ne C 216 dX6_bothBy_205 (by decide) (fun c_3 => ?_) (fun c_3 => ?_)
        · replace h := h.2 c_3
          refine v_iload C dX6_bothBy_216 1 rfl ?_
          refine v_if_eq C 225 dX6_bothBy_218 (by decide) (fun c_1 => ?_) (fun c_1 => ?_)
          · replace h := h.1 c_1
            refine v_iconst C 0 dX6_bothBy_225 (by decide) ?_
            exact hret _ _ _ 0 () h rfl dX6_bothBy_226
          · replace h := h.2 c_1
            refine v_iconst C 1 dX6_bothBy_221 (by decide) ?_
            refine v_goto C 226 dX6_bothBy_222 (by decide) ?_
            exact hret _ _ _ 1 () h rfl dX6_bothBy_226
        · replace h := h.1 c_3
          refine v_iload C dX6_bothBy_208 3 rfl ?_
          refine v_if_eq C 225 dX6_bothBy_210 (by decide) (fun c_2 => ?_) (fun c_2 => ?_)
          · replace h := h.1 c_2
            refine v_iconst C 0 dX6_bothBy_225 (by decide) ?_
            exact hret _ _ _ 0 () h rfl dX6_bothBy_226
          · replace h := h.2 c_2
            refine v_goto C 221 dX6_bothBy_213 (by decide) ?_
            refine v_iconst C 1 dX6_bothBy_221 (by decide) ?_
            refine v_goto C 226 dX6_bothBy_222 (by decide) ?_
            exact hret _ _ _ 1 () h rfl dX6_bothBy_226
      · replace h := h.1 c_5
        refine v_iload C dX6_bothBy_195 4 rfl ?_
        refine v_if_eq C 225 dX6_bothBy_197 (by decide) (fun c_4 => ?_) (fun c_4 => ?_)
        · replace h := h.1 c_4
          refine v_iconst C 0 dX6_bothBy_225 (by decide) ?_
          exact hret _ _ _ 0 () h rfl dX6_bothBy_226
        · replace h := h.2 c_4
          refine v_goto C 221 dX6_bothBy_200 (by decide) ?_
          refine v_iconst C 1 dX6_bothBy_221 (by decide) ?_
          refine v_goto C 226 dX6_bothBy_222 (by decide) ?_
          exact hret _ _ _ 1 () h rfl dX6_bothBy_226
    · replace h := h.1 c_6
      refine v_iload C dX6_bothBy_186 2 rfl ?_
      refine v_goto C 226 dX6_bothBy_188 (by decide) ?_
      exact hret _ _ _ x6_2 () h rfl dX6_bothBy_226
  have hl_1 : ∀ n_1 : Nat, ∀ (x8_1 : Int32) (x7_1 : Int32) (x6_1 : Int32) (x5_1 : Int32) (x4_1 : Int32), wl_Md_bothBy_15 rows a1 a2 (wx_Md_bothBy_181 a3 Q) n_1 x8_1 x7_1 x6_1 x5_1 x4_1 → qm_V l G rmX6_bothBy 13 X (mw G ad forms sizes items moved latest rows fresh oldMask oldRows known drawn label pile parts waitX waitY waitSide waits sign signs many) [(8, .int x8_1), (7, .int x7_1), (6, .int x6_1), (5, .int x5_1), (4, .int x4_1), (0, .ref (ad 0)), (1, .int a1), (2, .int a2), (3, .int a3)] 15 [] := by
    intro n_1
    induction n_1 with
    | zero =>
      intro x8_1 x7_1 x6_1 x5_1 x4_1 h
      exact False.elim h
    | succ n_1 ih_1 =>
      intro x8_1 x7_1 x6_1 x5_1 x4_1 h
      rw [wl_Md_bothBy_15] at h
      refine v_iload C dX6_bothBy_15 0 rfl ?_
      refine v_sipush C 256 dX6_bothBy_17 (by decide) ?_
      refine v_icmp_ge C 181 dX6_bothBy_20 (by decide) (fun c_14 => ?_) (fun c_14 => ?_)
      · replace h := h.1 c_14
        exact hx_1 x8_1 x7_1 x6_1 x5_1 x4_1 h
      · replace h := h.2 c_14
        refine v_iload C dX6_bothBy_23 0 rfl ?_
        refine v_bipush C 16 dX6_bothBy_25 (by decide) ?_
        refine v_irem C dX6_bothBy_27 (by decide) ?_
        refine v_topi (fun x9_1 ex9_1 => ?_)
        replace h := h x9_1 ex9_1
        refine v_istore C [(9, .int x9_1), (8, .int x8_1), (7, .int x7_1), (6, .int x6_1), (5, .int x5_1), (4, .int x4_1), (0, .ref (ad 0)), (1, .int a1), (2, .int a2), (3, .int a3)] dX6_bothBy_28 (by decide) rfl ?_
        refine v_iload C dX6_bothBy_30 1 rfl ?_
        refine v_bipush C 16 dX6_bothBy_32 (by decide) ?_
        refine v_idiv C dX6_bothBy_34 (by decide) ?_
        refine v_topi (fun x10_1 ex10_1 => ?_)
        replace h := h x10_1 ex10_1
        refine v_istore C [(10, .int x10_1), (9, .int x9_1), (8, .int x8_1), (7, .int x7_1), (6, .int x6_1), (5, .int x5_1), (4, .int x4_1), (0, .ref (ad 0)), (1, .int a1), (2, .int a2), (3, .int a3)] dX6_bothBy_35 (by decide) rfl ?_
        refine v_aload_n C dX6_bothBy_37 rfl 7 rfl ?_
        refine v_iload_n C dX6_bothBy_38 rfl 8 rfl ?_
        refine v_iload C dX6_bothBy_39 1 rfl ?_
        refine v_iload C dX6_bothBy_41 0 rfl ?_
        refine v_callVi C (c_Md_dark l G ad forms sizes items moved latest rows fresh oldMask oldRows known drawn label pile parts waitX waitY waitSide waits sign signs many a1 x9_1 x10_1 h) 0 rfl rfl gX6_bothBy_X6_dark rfl kX6_dark ⟨rfl, rfl⟩ ⟨Nat.le_of_ble_eq_true rfl, Nat.le_of_ble_eq_true rfl⟩ rfl (Nat.le_of_ble_eq_true rfl) dX6_bothBy_43 (fun r_1 _ h => ?_)
        try dsimp only at h
        refine v_istore C [(11, .int r_1), (10, .int x10_1), (9, .int x9_1), (8, .int x8_1), (7, .int x7_1), (6, .int x6_1), (5, .int x5_1), (4, .int x4_1), (0, .ref (ad 0)), (1, .int a1), (2, .int a2), (3, .int a3)] dX6_bothBy_46 (by decide) rfl ?_
        refine v_aload_n C dX6_bothBy_48 rfl 8 rfl ?_
        refine v_iload_n C dX6_bothBy_49 rfl 10 rfl ?_
        refine v_iload C dX6_bothBy_50 2 rfl ?_
        refine v_iload C dX6_bothBy_52 1 rfl ?_
        refine v_callVi C (c_Md_dark l G ad forms sizes items moved latest rows fresh oldMask oldRows known drawn label pile parts waitX waitY waitSide waits sign signs many a2 x9_1 x10_1 h) 0 rfl rfl gX6_bothBy_X6_dark rfl kX6_dark ⟨rfl, rfl⟩ ⟨Nat.le_of_ble_eq_true rfl, Nat.le_of_ble_eq_true rfl⟩ rfl (Nat.le_of_ble_eq_true rfl) dX6_bothBy_54 (fun r_2 _ h => ?_)
        try dsimp only at h
        refine v_istore C [(12, .int r_2), (11, .int r_1), (10, .int x10_1), (9, .int x9_1), (8, .int x8_1), (7, .int x7_1), (6, .int x6_1), (5, .int x5_1), (4, .int x4_1), (0, .ref (ad 0)), (1, .int a1), (2, .int a2), (3, .int a3)] dX6_bothBy_57 (by decide) rfl ?_
        refine v_iload C dX6_bothBy_59 8 rfl ?_
        have hJ_4 : ∀ (t_1 : Int32), (wj_Md_bothBy_76 rows a2 x8_1 x7_1 x6_1 x5_1 (wl_Md_bothBy_15 rows a1 a2 (wx_Md_bothBy_181 a3 Q) n_1) x9_1 x10_1 r_1 r_2) t_1 → qm_V l G rmX6_bothBy 13 X (mw G ad forms sizes items moved latest rows fresh oldMask oldRows known drawn label pile parts waitX waitY waitSide waits sign signs many) [(12, .int r_2), (11, .int r_1), (10, .int x10_1), (9, .int x9_1), (8, .int x8_1), (7, .int x7_1), (6, .int x6_1), (5, .int x5_1), (4, .int x4_1), (0, .ref (ad 0)), (1, .int a1), (2, .int a2), (3, .int a3)] 76 [.int t_1] := by
          intro t_1 h
          unfold wj_Md_bothBy_76 at h
          refine v_istore C [(4, .int t_1), (12, .int r_2), (11, .int r_1), (10, .int x10_1), (9, .int x9_1), (8, .int x8_1), (7, .int x7_1), (6, .int x6_1), (5, .int x5_1), (0, .ref (ad 0)), (1, .int a1), (2, .int a2), (3, .int a3)] dX6_bothBy_76 (by decide) rfl ?_
          refine v_iload C dX6_bothBy_78 8 rfl ?_
          have hJ_3 : ∀ (t_2 : Int32), (wj_Md_bothBy_95 rows a2 x8_1 x7_1 x6_1 (wl_Md_bothBy_15 rows a1 a2 (wx_Md_bothBy_181 a3 Q) n_1) x9_1 x10_1 r_1 r_2 t_1) t_2 → qm_V l G rmX6_bothBy 13 X (mw G ad forms sizes items moved latest rows fresh oldMask oldRows known drawn label pile parts waitX waitY waitSide waits sign signs many) [(4, .int t_1), (12, .int r_2), (11, .int r_1), (10, .int x10_1), (9, .int x9_1), (8, .int x8_1), (7, .int x7_1), (6, .int x6_1), (5, .int x5_1), (0, .ref (ad 0)), (1, .int a1), (2, .int a2), (3, .int a3)] 95 [.int t_2] := by
            intro t_2 h
            unfold wj_Md_bothBy_95 at h
            refine v_istore C [(5, .int t_2), (4, .int t_1), (12, .int r_2), (11, .int r_1), (10, .int x10_1), (9, .int x9_1), (8, .int x8_1), (7, .int x7_1), (6, .int x6_1), (0, .ref (ad 0)), (1, .int a1), (2, .int a2), (3, .int a3)] dX6_bothBy_95 (by decide) rfl ?_
            refine v_iload C dX6_bothBy_97 8 rfl ?_
            refine v_iload C dX6_bothBy_99 3 rfl ?_
            refine v_iload C dX6_bothBy_101 2 rfl ?_
            refine v_iand C dX6_bothBy_103 ?_
            refine v_iadd C dX6_bothBy_104 ?_
            refine v_topi (fun x6_3 ex6_3 => ?_)
            replace h := h x6_3 ex6_3
            refine v_istore C [(6, .int x6_3), (5, .int t_2), (4, .int t_1), (12, .int r_2), (11, .int r_1), (10, .int x10_1), (9, .int x9_1), (8, .int x8_1), (7, .int x7_1), (0, .ref (ad 0)), (1, .int a1), (2, .int a2), (3, .int a3)] dX6_bothBy_105 (by decide) rfl ?_
            refine v_iload C dX6_bothBy_107 8 rfl ?_
            have hJ_1 : ∀ (t_3 : Int32), (fun (t_3 : Int32) => (wl_Md_bothBy_15 rows a1 a2 (wx_Md_bothBy_181 a3 Q) n_1) (x8_1 + 1) t_3 x6_3 t_2 t_1) t_3 → qm_V l G rmX6_bothBy 13 X (mw G ad forms sizes items moved latest rows fresh oldMask oldRows known drawn label pile parts waitX waitY waitSide waits sign signs many) [(6, .int x6_3), (5, .int t_2), (4, .int t_1), (12, .int r_2), (11, .int r_1), (10, .int x10_1), (9, .int x9_1), (8, .int x8_1), (7, .int x7_1), (0, .ref (ad 0)), (1, .int a1), (2, .int a2), (3, .int a3)] 173 [.int t_3] := by
              intro t_3 h
              try dsimp only at h
              refine v_istore C [(7, .int t_3), (6, .int x6_3), (5, .int t_2), (4, .int t_1), (12, .int r_2), (11, .int r_1), (10, .int x10_1), (9, .int x9_1), (8, .int x8_1), (0, .ref (ad 0)), (1, .int a1), (2, .int a2), (3, .int a3)] dX6_bothBy_173 (by decide) rfl ?_
              refine v_iinc C (x8_1 + 1) 8 [(8, .int (x8_1 + 1)), (7, .int t_3), (6, .int x6_3), (5, .int t_2), (4, .int t_1), (12, .int r_2), (11, .int r_1), (10, .int x10_1), (9, .int x9_1), (0, .ref (ad 0)), (1, .int a1), (2, .int a2), (3, .int a3)] dX6_bothBy_175 rfl rfl (by decide) rfl ?_
              refine v_goto C 15 dX6_bothBy_178 (by decide) ?_
              refine v_perm [0, 1, 2, 3, 4, 9, 10, 11, 12] rfl ?_
              exact ih_1 (x8_1 + 1) t_3 x6_3 t_2 t_1 h
            replace h := jn_use h
            try dsimp only at h
            refine v_if_ne C 168 dX6_bothBy_109 (by decide) (fun c_9 => ?_) (fun c_9 => ?_)
            · replace h := h.2 c_9
              refine v_iconst C 1 dX6_bothBy_168 (by decide) ?_
              refine v_goto C 173 dX6_bothBy_169 (by decide) ?_
              exact hJ_1 1 h
            · replace h := h.1 c_9
              refine v_iload C dX6_bothBy_112 4 rfl ?_
              refine v_iconst C 1 dX6_bothBy_114 (by decide) ?_
              have hJ_2 : ((fun (t_3 : Int32) => (wl_Md_bothBy_15 rows a1 a2 (wx_Md_bothBy_181 a3 Q) n_1) (x8_1 + 1) t_3 x6_3 t_2 t_1) 0) → qm_V l G rmX6_bothBy 13 X (mw G ad forms sizes items moved latest rows fresh oldMask oldRows known drawn label pile parts waitX waitY waitSide waits sign signs many) [(6, .int x6_3), (5, .int t_2), (4, .int t_1), (12, .int r_2), (11, .int r_1), (10, .int x10_1), (9, .int x9_1), (8, .int x8_1), (7, .int x7_1), (0, .ref (ad 0)), (1, .int a1), (2, .int a2), (3, .int a3)] 172 [] := by
                intro h
                try dsimp only at h
                refine v_iconst C 0 dX6_bothBy_172 (by decide) ?_
                exact hJ_1 0 h
              replace h := jn_use h
              try dsimp only at h
              refine v_icmp_ne C 172 dX6_bothBy_115 (by decide) (fun c_8 => ?_) (fun c_8 => ?_)
              · replace h := h.2 c_8
                exact hJ_2 h
              · replace h := h.1 c_8
                refine v_aload_n C dX6_bothBy_118 rfl 9 rfl ?_
                refine v_iload_n C dX6_bothBy_119 rfl 11 rfl ?_
                refine v_iload C dX6_bothBy_120 6 rfl ?_
                refine v_iconst C 1 dX6_bothBy_122 (by decide) ?_
                refine v_iadd C dX6_bothBy_123 ?_
                refine v_iload C dX6_bothBy_124 5 rfl ?_
                refine v_callVi C (c_Md_dark l G ad forms sizes items moved latest rows fresh oldMask oldRows known drawn label pile parts waitX waitY waitSide waits sign signs many a2 (x9_1 + 1) x10_1 h) 0 rfl rfl gX6_bothBy_X6_dark rfl kX6_dark ⟨rfl, rfl⟩ ⟨Nat.le_of_ble_eq_true rfl, Nat.le_of_ble_eq_true rfl⟩ rfl (Nat.le_of_ble_eq_true rfl) dX6_bothBy_126 (fun r_3 _ h => ?_)
                try dsimp only at h
                refine v_aload_n C dX6_bothBy_129 rfl 9 rfl ?_
                refine v_iload_n C dX6_bothBy_130 rfl 11 rfl ?_
                refine v_iload C dX6_bothBy_131 6 rfl ?_
                refine v_iconst C 1 dX6_bothBy_133 (by decide) ?_
                refine v_isub C dX6_bothBy_134 ?_
                refine v_iload C dX6_bothBy_135 5 rfl ?_
                refine v_callVi C (c_Md_dark l G ad forms sizes items moved latest rows fresh oldMask oldRows known drawn label pile parts waitX waitY waitSide waits sign signs many a2 (x9_1 - 1) x10_1 h) 0 rfl rfl gX6_bothBy_X6_dark rfl kX6_dark ⟨rfl, rfl⟩ ⟨Nat.le_of_ble_eq_true rfl, Nat.le_of_ble_eq_true rfl⟩ rfl (Nat.le_of_ble_eq_true rfl) dX6_bothBy_137 (fun r_4 _ h => ?_)
                try dsimp only at h
                refine v_iadd C dX6_bothBy_140 ?_
                refine v_aload_n C dX6_bothBy_141 rfl 9 rfl ?_
                refine v_iload_n C dX6_bothBy_142 rfl 11 rfl ?_
                refine v_iload C dX6_bothBy_143 6 rfl ?_
                refine v_iload C dX6_bothBy_145 5 rfl ?_
                refine v_iconst C 1 dX6_bothBy_147 (by decide) ?_
                refine v_iadd C dX6_bothBy_148 ?_
                refine v_callVi C (c_Md_dark l G ad forms sizes items moved latest rows fresh oldMask oldRows known drawn label pile parts waitX waitY waitSide waits sign signs many a2 x9_1 (x10_1 + 1) h) 0 rfl rfl gX6_bothBy_X6_dark rfl kX6_dark ⟨rfl, rfl⟩ ⟨Nat.le_of_ble_eq_true rfl, Nat.le_of_ble_eq_true rfl⟩ rfl (Nat.le_of_ble_eq_true rfl) dX6_bothBy_149 (fun r_5 _ h => ?_)
                try dsimp only at h
                refine v_iadd C dX6_bothBy_152 ?_
                refine v_aload_n C dX6_bothBy_153 rfl 9 rfl ?_
                refine v_iload_n C dX6_bothBy_154 rfl 11 rfl ?_
                refine v_iload C dX6_bothBy_155 6 rfl ?_
                refine v_iload C dX6_bothBy_157 5 rfl ?_
                refine v_iconst C 1 dX6_bothBy_159 (by decide) ?_
                refine v_isub C dX6_bothBy_160 ?_
                refine v_callVi C (c_Md_dark l G ad forms sizes items moved latest rows fresh oldMask oldRows known drawn label pile parts waitX waitY waitSide waits sign signs many a2 x9_1 (x10_1 - 1) h) 0 rfl rfl gX6_bothBy_X6_dark rfl kX6_dark ⟨rfl, rfl⟩ ⟨Nat.le_of_ble_eq_true rfl, Nat.le_of_ble_eq_true rfl⟩ rfl (Nat.le_of_ble_eq_true rfl) dX6_bothBy_161 (fun r_6 _ h => ?_)
                try dsimp only at h
                refine v_iadd C dX6_bothBy_164 ?_
                refine v_if_le C 172 dX6_bothBy_165 (by decide) (fun c_7 => ?_) (fun c_7 => ?_)
                · replace h := h.1 c_7
                  exact hJ_2 h
                · replace h := h.2 c_7
                  refine v_iconst C 1 dX6_bothBy_168 (by decide) ?_
                  refine v_goto C 173 dX6_bothBy_169 (by decide) ?_
                  exact hJ_1 1 h
          replace h := jn_use h
          try dsimp only at h
          refine v_if_eq C 94 dX6_bothBy_80 (by decide) (fun c_11 => ?_) (fun c_11 => ?_)
          · replace h := h.1 c_11
            refine v_iconst C 0 dX6_bothBy_94 (by decide) ?_
            exact hJ_3 0 h
          · replace h := h.2 c_11
            refine v_iload C dX6_bothBy_83 2 rfl ?_
            refine v_iload C dX6_bothBy_85 1 rfl ?_
            refine v_icmp_gt C 94 dX6_bothBy_87 (by decide) (fun c_10 => ?_) (fun c_10 => ?_)
            · replace h := h.1 c_10
              refine v_iconst C 0 dX6_bothBy_94 (by decide) ?_
              exact hJ_3 0 h
            · replace h := h.2 c_10
              refine v_iconst C 1 dX6_bothBy_90 (by decide) ?_
              refine v_goto C 95 dX6_bothBy_91 (by decide) ?_
              exact hJ_3 1 h
        replace h := jn_use h
        try dsimp only at h
        refine v_if_eq C 75 dX6_bothBy_61 (by decide) (fun c_13 => ?_) (fun c_13 => ?_)
        · replace h := h.1 c_13
          refine v_iconst C 0 dX6_bothBy_75 (by decide) ?_
          exact hJ_4 0 h
        · replace h := h.2 c_13
          refine v_iload C dX6_bothBy_64 1 rfl ?_
          refine v_iload C dX6_bothBy_66 0 rfl ?_
          refine v_icmp_ne C 75 dX6_bothBy_68 (by decide) (fun c_12 => ?_) (fun c_12 => ?_)
          · replace h := h.2 c_12
            refine v_iconst C 0 dX6_bothBy_75 (by decide) ?_
            exact hJ_4 0 h
          · replace h := h.1 c_12
            refine v_iconst C 1 dX6_bothBy_71 (by decide) ?_
            refine v_goto C 76 dX6_bothBy_72 (by decide) ?_
            exact hJ_4 1 h
  obtain ⟨k_1, h⟩ := h
  exact hl_1 k_1 0 0 0 1 1 h
-- QuarterMasksModel.both
def rmX6_both : Room := { frames := 5, cells := 0, slots := 0, locals := 141 }
theorem kX6_both : yX6_both.cls = RX6 ∧ yX6_both.cls ≠ "java/lang/invoke/MethodHandle" ∧ yX6_both.cls ≠ "java/lang/invoke/VarHandle" ∧ (parseMethodDescriptor yX6_both.desc).map (fun d => d.parameters.length) = some 3 := by decide +kernel
theorem mX6_both_w1 : Cond.constantLong RX6 63 (3) ∈ wsX6_both := List.mem_of_getElem? (i := 1) rfl
def wp_Md_both (rows : IA) (a1 : Int32) (a2 : Int32) (a3 : Int32) (Q : Int32 → Prop) : Prop :=
  wp_Md_isMask a1 (fun r_1 => (r_1 = 0 → (Q (-2))) ∧ (¬ r_1 = 0 → (wp_Md_isMask a2 (fun r_2 => (r_2 = 0 → (Q (-2))) ∧ (¬ r_2 = 0 → (wp_Md_in (Int32.toInt64 a3) 0 3 (fun r_3 => (r_3 = 0 → (Q (-2))) ∧ (¬ r_3 = 0 → (wp_Md_bothBy rows a1 a2 a3 (fun r_4 => Q r_4))))))))))
set_option maxHeartbeats 4000000 in
theorem c_Md_both (l : Launch) (G : GG) (ad : Nat → Nat) (forms : IA) (sizes : IA) (items : IA) (moved : IA) (latest : Int32) (rows : IA) (fresh : IA) (oldMask : IA) (oldRows : IA) (known : Int32) (drawn : Int32) (label : IA) (pile : IA) (parts : Int32) (waitX : IA) (waitY : IA) (waitSide : IA) (waits : Int32) (sign : IA) (signs : Int32) (many : IA) (a1 : Int32) (a2 : Int32) (a3 : Int32) {Q : Int32 → Prop} (h : wp_Md_both rows a1 a2 a3 Q) : qm_MI l yX6_both wsX6_both rmX6_both G [.ref (ad 0), .int a1, .int a2, .int a3] (mw G ad forms sizes items moved latest rows fresh oldMask oldRows known drawn label pile parts waitX waitY waitSide waits sign signs many) (fun (r : Int32) (_ : Unit) => Q r) (fun (_ : Unit) => mw G ad forms sizes items moved latest rows fresh oldMask oldRows known drawn label pile parts waitX waitY waitSide waits sign signs many) := by
  refine qm_mkI (cc := cX6_both) (maxL := 4) (by decide) rfl (Nat.le_of_ble_eq_true rfl) ?_
  intro X C hret
  replace C : qm_C G 4 X cX6_both wsX6_both RX6 := C
  refine v_lv (lv' := [(0, .ref (ad 0)), (1, .int a1), (2, .int a2), (3, .int a3)]) rfl ?_
  unfold wp_Md_both at h
  refine v_iload_n C dX6_both_0 rfl 1 rfl ?_
  refine v_callSi C (c_Md_isMask l G (mw G ad forms sizes items moved latest rows fresh oldMask oldRows known drawn label pile parts waitX waitY waitSide waits sign signs many) a1 h) gX6_both_X6_isMask rfl kX6_isMask ⟨rfl, rfl⟩ ⟨Nat.le_of_ble_eq_true rfl, Nat.le_of_ble_eq_true rfl⟩ rfl (Nat.le_of_ble_eq_true rfl) dX6_both_1 (fun r_1 _ h => ?_)
  try dsimp only at h
  refine v_if_eq C 36 dX6_both_4 (by decide) (fun c_3 => ?_) (fun c_3 => ?_)
  · replace h := h.1 c_3
    refine v_bipush C (-2) dX6_both_36 (by decide) ?_
    exact hret _ _ _ (-2) () h rfl dX6_both_38
  · replace h := h.2 c_3
    refine v_iload_n C dX6_both_7 rfl 2 rfl ?_
    refine v_callSi C (c_Md_isMask l G (mw G ad forms sizes items moved latest rows fresh oldMask oldRows known drawn label pile parts waitX waitY waitSide waits sign signs many) a2 h) gX6_both_X6_isMask rfl kX6_isMask ⟨rfl, rfl⟩ ⟨Nat.le_of_ble_eq_true rfl, Nat.le_of_ble_eq_true rfl⟩ rfl (Nat.le_of_ble_eq_true rfl) dX6_both_8 (fun r_2 _ h => ?_)
    try dsimp only at h
    refine v_if_eq C 36 dX6_both_11 (by decide) (fun c_2 => ?_) (fun c_2 => ?_)
    · replace h := h.1 c_2
      refine v_bipush C (-2) dX6_both_36 (by decide) ?_
      exact hret _ _ _ (-2) () h rfl dX6_both_38
    · replace h := h.2 c_2
      refine v_iload_n C dX6_both_14 rfl 3 rfl ?_
      refine v_i2l C dX6_both_15 ?_
      refine v_lconst C 0 dX6_both_16 (by decide) ?_
      refine v_ldc2 C 3 mX6_both_w1 dX6_both_17 ?_
      refine v_callSi C (c_Md_in l G (mw G ad forms sizes items moved latest rows fresh oldMask oldRows known drawn label pile parts waitX waitY waitSide waits sign signs many) (Int32.toInt64 a3) 0 3 h) gX6_both_X6_in rfl kX6_in ⟨rfl, rfl⟩ ⟨Nat.le_of_ble_eq_true rfl, Nat.le_of_ble_eq_true rfl⟩ rfl (Nat.le_of_ble_eq_true rfl) dX6_both_20 (fun r_3 _ h => ?_)
      try dsimp only at h
      refine v_if_eq C 36 dX6_both_23 (by decide) (fun c_1 => ?_) (fun c_1 => ?_)
      · replace h := h.1 c_1
        refine v_bipush C (-2) dX6_both_36 (by decide) ?_
        exact hret _ _ _ (-2) () h rfl dX6_both_38
      · replace h := h.2 c_1
        refine v_aload_n C dX6_both_26 rfl 0 rfl ?_
        refine v_iload_n C dX6_both_27 rfl 1 rfl ?_
        refine v_iload_n C dX6_both_28 rfl 2 rfl ?_
        refine v_iload_n C dX6_both_29 rfl 3 rfl ?_
        refine v_callVi C (c_Md_bothBy l G ad forms sizes items moved latest rows fresh oldMask oldRows known drawn label pile parts waitX waitY waitSide waits sign signs many a1 a2 a3 h) 0 rfl rfl gX6_both_X6_bothBy rfl kX6_bothBy ⟨rfl, rfl⟩ ⟨Nat.le_of_ble_eq_true rfl, Nat.le_of_ble_eq_true rfl⟩ rfl (Nat.le_of_ble_eq_true rfl) dX6_both_30 (fun r_4 _ h => ?_)
        try dsimp only at h
        refine v_goto C 38 dX6_both_33 (by decide) ?_
        exact hret _ _ _ r_4 () h rfl dX6_both_38
-- QuarterMasksModel.write
def rmX6_write : Room := { frames := 5, cells := 0, slots := 0, locals := 135 }
theorem kX6_write : yX6_write.cls = RX6 ∧ yX6_write.cls ≠ "java/lang/invoke/MethodHandle" ∧ yX6_write.cls ≠ "java/lang/invoke/VarHandle" ∧ (parseMethodDescriptor yX6_write.desc).map (fun d => d.parameters.length) = some 3 := by decide +kernel
theorem mX6_write_w1 : Cond.constantLong RX6 194 (340) ∈ wsX6_write := List.mem_of_getElem? (i := 1) rfl
theorem mX6_write_w2 : Cond.fieldLink RX6 7 "QuarterMasksModel" "forms" "[I" ∈ wsX6_write := List.mem_of_getElem? (i := 2) rfl
theorem iX6_write_6 : ∀ w ∈ wsX60, w ∈ wsX6_write := fun w h => List.mem_cons_of_mem _ (List.mem_append_right _ h)
theorem mX6_write_w3 : Cond.fieldLink RX6 13 "QuarterMasksModel" "sizes" "[I" ∈ wsX6_write := List.mem_of_getElem? (i := 3) rfl
theorem mX6_write_w4 : Cond.fieldLink RX6 174 "QuarterMasksModel" "signs" "I" ∈ wsX6_write := List.mem_of_getElem? (i := 4) rfl
theorem mX6_write_w5 : Cond.fieldLink RX6 16 "QuarterMasksModel" "items" "[I" ∈ wsX6_write := List.mem_of_getElem? (i := 5) rfl
theorem mX6_write_w6 : Cond.fieldLink RX6 49 "QuarterMasksModel" "sign" "[I" ∈ wsX6_write := List.mem_of_getElem? (i := 6) rfl
def wl_Md_write_73 (forms : IA) (latest : Int32) (a2 : Int32) (a3 : Int32) (Q : Int32 → IA → Int32 → IA → IA → IA → Int32 → IA → Int32 → IA → Prop) (m_waitX_1 : IA) (m_waitY_1 : IA) (m_waitSide_1 : IA) (m_waits_1 : Int32) (m_sign_1 : IA) (m_signs_1 : Int32) (m_many_1 : IA) (r_5 : Int32) : Nat → Int32 → IA → Prop
  | 0, _, _ => False
  | n + 1, x5_1, items_1 => (r_5 ≤ x5_1 → (Q r_5 items_1 latest m_waitX_1 m_waitY_1 m_waitSide_1 m_waits_1 m_sign_1 m_signs_1 m_many_1)) ∧ (¬ r_5 ≤ x5_1 → (vp_in a3 4 ∧ (vp_in (a2 + x5_1) 341 ∧ (wp_Md_cut (forms a3.toNatClampNeg) (m_sign_1 (a2 + x5_1).toNatClampNeg) (fun r_6 => vp_in ((60 * a3) + x5_1) 240 ∧ (∀ f_items_1 : IA, f_items_1 = upd items_1 ((60 * a3) + x5_1).toNatClampNeg r_6 → ((wl_Md_write_73 forms latest a2 a3 Q m_waitX_1 m_waitY_1 m_waitSide_1 m_waits_1 m_sign_1 m_signs_1 m_many_1 r_5 n) (x5_1 + 1) f_items_1)))))))
def wp_Md_write (forms : IA) (sizes : IA) (items : IA) (latest : Int32) (rows : IA) (waitX : IA) (waitY : IA) (waitSide : IA) (waits : Int32) (sign : IA) (signs : Int32) (many : IA) (a1 : Int32) (a2 : Int32) (a3 : Int32) (Q : Int32 → IA → Int32 → IA → IA → IA → Int32 → IA → Int32 → IA → Prop) : Prop :=
  wp_Md_isMask a1 (fun r_1 => (r_1 = 0 → (Q (-2) items latest waitX waitY waitSide waits sign signs many)) ∧ (¬ r_1 = 0 → (wp_Md_in (Int32.toInt64 a2) 0 340 (fun r_2 => (r_2 = 0 → (Q (-2) items latest waitX waitY waitSide waits sign signs many)) ∧ (¬ r_2 = 0 → (wp_Md_isSheet a3 (fun r_3 => (r_3 = 0 → (Q (-2) items latest waitX waitY waitSide waits sign signs many)) ∧ (¬ r_3 = 0 → (vp_in a3 4 ∧ ((0 ≤ (forms a3.toNatClampNeg) → (wp_Md_shows rows waitX waitY waitSide sign many a1 (fun m_waitX_1 m_waitY_1 m_waitSide_1 m_waits_1 m_sign_1 m_signs_1 m_many_1 => vp_in a3 4 ∧ (wp_Md_greater (m_signs_1 - a2) 0 (fun r_4 => wp_Md_lesser (sizes a3.toNatClampNeg) r_4 (fun r_5 => ∃ k_1 : Nat, wl_Md_write_73 forms latest a2 a3 Q m_waitX_1 m_waitY_1 m_waitSide_1 m_waits_1 m_sign_1 m_signs_1 m_many_1 r_5 k_1 0 items)))))) ∧ (¬ 0 ≤ (forms a3.toNatClampNeg) → (wp_Md_finds 1 (fun r_7 m_latest_1 => Q r_7 items m_latest_1 waitX waitY waitSide waits sign signs many)))))))))))))
set_option maxHeartbeats 4000000 in
theorem c_Md_write (l : Launch) (G : GG) (ad : Nat → Nat) (forms : IA) (sizes : IA) (items : IA) (moved : IA) (latest : Int32) (rows : IA) (fresh : IA) (oldMask : IA) (oldRows : IA) (known : Int32) (drawn : Int32) (label : IA) (pile : IA) (parts : Int32) (waitX : IA) (waitY : IA) (waitSide : IA) (waits : Int32) (sign : IA) (signs : Int32) (many : IA) (a1 : Int32) (a2 : Int32) (a3 : Int32) {Q : Int32 → IA → Int32 → IA → IA → IA → Int32 → IA → Int32 → IA → Prop} (h : wp_Md_write forms sizes items latest rows waitX waitY waitSide waits sign signs many a1 a2 a3 Q) : qm_MI l yX6_write wsX6_write rmX6_write G [.ref (ad 0), .int a1, .int a2, .int a3] (mw G ad forms sizes items moved latest rows fresh oldMask oldRows known drawn label pile parts waitX waitY waitSide waits sign signs many) (fun (r : Int32) (u : IA × Int32 × IA × IA × IA × Int32 × IA × Int32 × IA) => Q r u.1 u.2.1 u.2.2.1 u.2.2.2.1 u.2.2.2.2.1 u.2.2.2.2.2.1 u.2.2.2.2.2.2.1 u.2.2.2.2.2.2.2.1 u.2.2.2.2.2.2.2.2) (fun (u : IA × Int32 × IA × IA × IA × Int32 × IA × Int32 × IA) => mw G ad forms sizes u.1 moved u.2.1 rows fresh oldMask oldRows known drawn label pile parts u.2.2.1 u.2.2.2.1 u.2.2.2.2.1 u.2.2.2.2.2.1 u.2.2.2.2.2.2.1 u.2.2.2.2.2.2.2.1 u.2.2.2.2.2.2.2.2) := by
  refine qm_mkI (cc := cX6_write) (maxL := 6) (by decide) rfl (Nat.le_of_ble_eq_true rfl) ?_
  intro X C hret
  replace C : qm_C G 6 X cX6_write wsX6_write RX6 := C
  refine v_lv (lv' := [(0, .ref (ad 0)), (1, .int a1), (2, .int a2), (3, .int a3)]) rfl ?_
  unfold wp_Md_write at h
  refine v_iload_n C dX6_write_0 rfl 1 rfl ?_
  refine v_callSi C (c_Md_isMask l G (mw G ad forms sizes items moved latest rows fresh oldMask oldRows known drawn label pile parts waitX waitY waitSide waits sign signs many) a1 h) gX6_write_X6_isMask rfl kX6_isMask ⟨rfl, rfl⟩ ⟨Nat.le_of_ble_eq_true rfl, Nat.le_of_ble_eq_true rfl⟩ rfl (Nat.le_of_ble_eq_true rfl) dX6_write_1 (fun r_1 _ h => ?_)
  try dsimp only at h
  refine v_if_eq C 26 dX6_write_4 (by decide) (fun c_5 => ?_) (fun c_5 => ?_)
  · replace h := h.1 c_5
    refine v_bipush C (-2) dX6_write_26 (by decide) ?_
    exact hret _ _ _ (-2) (items, latest, waitX, waitY, waitSide, waits, sign, signs, many) h rfl dX6_write_28
  · replace h := h.2 c_5
    refine v_iload_n C dX6_write_7 rfl 2 rfl ?_
    refine v_i2l C dX6_write_8 ?_
    refine v_lconst C 0 dX6_write_9 (by decide) ?_
    refine v_ldc2 C 340 mX6_write_w1 dX6_write_10 ?_
    refine v_callSi C (c_Md_in l G (mw G ad forms sizes items moved latest rows fresh oldMask oldRows known drawn label pile parts waitX waitY waitSide waits sign signs many) (Int32.toInt64 a2) 0 340 h) gX6_write_X6_in rfl kX6_in ⟨rfl, rfl⟩ ⟨Nat.le_of_ble_eq_true rfl, Nat.le_of_ble_eq_true rfl⟩ rfl (Nat.le_of_ble_eq_true rfl) dX6_write_13 (fun r_2 _ h => ?_)
    try dsimp only at h
    refine v_if_eq C 26 dX6_write_16 (by decide) (fun c_4 => ?_) (fun c_4 => ?_)
    · replace h := h.1 c_4
      refine v_bipush C (-2) dX6_write_26 (by decide) ?_
      exact hret _ _ _ (-2) (items, latest, waitX, waitY, waitSide, waits, sign, signs, many) h rfl dX6_write_28
    · replace h := h.2 c_4
      refine v_iload_n C dX6_write_19 rfl 3 rfl ?_
      refine v_callSi C (c_Md_isSheet l G (mw G ad forms sizes items moved latest rows fresh oldMask oldRows known drawn label pile parts waitX waitY waitSide waits sign signs many) a3 h) gX6_write_X6_isSheet rfl kX6_isSheet ⟨rfl, rfl⟩ ⟨Nat.le_of_ble_eq_true rfl, Nat.le_of_ble_eq_true rfl⟩ rfl (Nat.le_of_ble_eq_true rfl) dX6_write_20 (fun r_3 _ h => ?_)
      try dsimp only at h
      refine v_if_ne C 29 dX6_write_23 (by decide) (fun c_3 => ?_) (fun c_3 => ?_)
      · replace h := h.2 c_3
        refine v_aload_n C dX6_write_29 rfl 0 rfl ?_
        refine v_get C iX6_write_6 0 rfl rfl 0 (by decide) mX6_write_w2 rfl rfl dX6_write_30 ?_
        refine v_iload_n C dX6_write_33 rfl 3 rfl ?_
        obtain ⟨hin_1, h⟩ := h
        refine v_iald C 1 rfl hin_1 dX6_write_34 ?_
        refine v_if_ge C 44 dX6_write_35 (by decide) (fun c_2 => ?_) (fun c_2 => ?_)
        · replace h := h.1 c_2
          refine v_aload_n C dX6_write_44 rfl 0 rfl ?_
          refine v_iload_n C dX6_write_45 rfl 1 rfl ?_
          refine v_callVv C (c_Md_shows l G ad forms sizes items moved latest rows fresh oldMask oldRows known drawn label pile parts waitX waitY waitSide waits sign signs many a1 h) 0 rfl rfl gX6_write_X6_shows rfl kX6_shows ⟨rfl, rfl⟩ ⟨Nat.le_of_ble_eq_true rfl, Nat.le_of_ble_eq_true rfl⟩ rfl (Nat.le_of_ble_eq_true rfl) dX6_write_46 (fun u h => ?_)
          obtain ⟨m_waitX_1, m_waitY_1, m_waitSide_1, m_waits_1, m_sign_1, m_signs_1, m_many_1⟩ := u
          try dsimp only at h
          refine v_world (ws' := mw G ad forms sizes items moved latest rows fresh oldMask oldRows known drawn label pile parts m_waitX_1 m_waitY_1 m_waitSide_1 m_waits_1 m_sign_1 m_signs_1 m_many_1) rfl ?_
          refine v_aload_n C dX6_write_49 rfl 0 rfl ?_
          refine v_get C iX6_write_6 0 rfl rfl 1 (by decide) mX6_write_w3 rfl rfl dX6_write_50 ?_
          refine v_iload_n C dX6_write_53 rfl 3 rfl ?_
          obtain ⟨hin_2, h⟩ := h
          refine v_iald C 2 rfl hin_2 dX6_write_54 ?_
          refine v_aload_n C dX6_write_55 rfl 0 rfl ?_
          refine v_get C iX6_write_6 0 rfl rfl 19 (by decide) mX6_write_w4 rfl rfl dX6_write_56 ?_
          refine v_iload_n C dX6_write_59 rfl 2 rfl ?_
          refine v_isub C dX6_write_60 ?_
          refine v_iconst C 0 dX6_write_61 (by decide) ?_
          refine v_callSi C (c_Md_greater l G (mw G ad forms sizes items moved latest rows fresh oldMask oldRows known drawn label pile parts m_waitX_1 m_waitY_1 m_waitSide_1 m_waits_1 m_sign_1 m_signs_1 m_many_1) (m_signs_1 - a2) 0 h) gX6_write_X6_greater rfl kX6_greater ⟨rfl, rfl⟩ ⟨Nat.le_of_ble_eq_true rfl, Nat.le_of_ble_eq_true rfl⟩ rfl (Nat.le_of_ble_eq_true rfl) dX6_write_62 (fun r_4 _ h => ?_)
          try dsimp only at h
          refine v_callSi C (c_Md_lesser l G (mw G ad forms sizes items moved latest rows fresh oldMask oldRows known drawn label pile parts m_waitX_1 m_waitY_1 m_waitSide_1 m_waits_1 m_sign_1 m_signs_1 m_many_1) (sizes a3.toNatClampNeg) r_4 h) gX6_write_X6_lesser rfl kX6_lesser ⟨rfl, rfl⟩ ⟨Nat.le_of_ble_eq_true rfl, Nat.le_of_ble_eq_true rfl⟩ rfl (Nat.le_of_ble_eq_true rfl) dX6_write_65 (fun r_5 _ h => ?_)
          try dsimp only at h
          refine v_istore C [(4, .int r_5), (0, .ref (ad 0)), (1, .int a1), (2, .int a2), (3, .int a3)] dX6_write_68 (by decide) rfl ?_
          refine v_iconst C 0 dX6_write_70 (by decide) ?_
          refine v_istore C [(5, .int 0), (4, .int r_5), (0, .ref (ad 0)), (1, .int a1), (2, .int a2), (3, .int a3)] dX6_write_71 (by decide) rfl ?_
          have hl_1 : ∀ n_1 : Nat, ∀ (x5_1 : Int32) (items_1 : IA), wl_Md_write_73 forms latest a2 a3 Q m_waitX_1 m_waitY_1 m_waitSide_1 m_waits_1 m_sign_1 m_signs_1 m_many_1 r_5 n_1 x5_1 items_1 → qm_V l G rmX6_write 6 X (mw G ad forms sizes items_1 moved latest rows fresh oldMask oldRows known drawn label pile parts m_waitX_1 m_waitY_1 m_waitSide_1 m_waits_1 m_sign_1 m_signs_1 m_many_1) [(5, .int x5_1), (4, .int r_5), (0, .ref (ad 0)), (1, .int a1), (2, .int a2), (3, .int a3)] 73 [] := by
            intro n_1
            induction n_1 with
            | zero =>
              intro x5_1 items_1 h
              exact False.elim h
            | succ n_1 ih_1 =>
              intro x5_1 items_1 h
              rw [wl_Md_write_73] at h
              refine v_iload C dX6_write_73 0 rfl ?_
              refine v_iload C dX6_write_75 1 rfl ?_
              refine v_icmp_ge C 116 dX6_write_77 (by decide) (fun c_1 => ?_) (fun c_1 => ?_)
              · replace h := h.1 c_1
                refine v_iload C dX6_write_116 1 rfl ?_
                exact hret _ _ _ r_5 (items_1, latest, m_waitX_1, m_waitY_1, m_waitSide_1, m_waits_1, m_sign_1, m_signs_1, m_many_1) h rfl dX6_write_118
              · replace h := h.2 c_1
                refine v_aload_n C dX6_write_80 rfl 2 rfl ?_
                refine v_get C iX6_write_6 0 rfl rfl 2 (by decide) mX6_write_w5 rfl rfl dX6_write_81 ?_
                refine v_bipush C 60 dX6_write_84 (by decide) ?_
                refine v_iload_n C dX6_write_86 rfl 5 rfl ?_
                refine v_imul C dX6_write_87 ?_
                refine v_iload C dX6_write_88 0 rfl ?_
                refine v_iadd C dX6_write_90 ?_
                refine v_aload_n C dX6_write_91 rfl 2 rfl ?_
                refine v_get C iX6_write_6 0 rfl rfl 0 (by decide) mX6_write_w2 rfl rfl dX6_write_92 ?_
                refine v_iload_n C dX6_write_95 rfl 5 rfl ?_
                obtain ⟨hin_3, h⟩ := h
                refine v_iald C 1 rfl hin_3 dX6_write_96 ?_
                refine v_aload_n C dX6_write_97 rfl 2 rfl ?_
                refine v_get C iX6_write_6 0 rfl rfl 18 (by decide) mX6_write_w6 rfl rfl dX6_write_98 ?_
                refine v_iload_n C dX6_write_101 rfl 4 rfl ?_
                refine v_iload C dX6_write_102 0 rfl ?_
                refine v_iadd C dX6_write_104 ?_
                obtain ⟨hin_4, h⟩ := h
                refine v_iald C 14 rfl hin_4 dX6_write_105 ?_
                refine v_callSi C (c_Md_cut l G (mw G ad forms sizes items_1 moved latest rows fresh oldMask oldRows known drawn label pile parts m_waitX_1 m_waitY_1 m_waitSide_1 m_waits_1 m_sign_1 m_signs_1 m_many_1) (forms a3.toNatClampNeg) (m_sign_1 (a2 + x5_1).toNatClampNeg) h) gX6_write_X6_cut rfl kX6_cut ⟨rfl, rfl⟩ ⟨Nat.le_of_ble_eq_true rfl, Nat.le_of_ble_eq_true rfl⟩ rfl (Nat.le_of_ble_eq_true rfl) dX6_write_106 (fun r_6 _ h => ?_)
                try dsimp only at h
                obtain ⟨hin_5, h⟩ := h
                obtain ⟨f_items_1, ef_items_1⟩ : ∃ y : IA, y = upd items_1 ((60 * a3) + x5_1).toNatClampNeg r_6 := ⟨_, rfl⟩
                replace h := h f_items_1 ef_items_1
                refine v_iast C 3 rfl (ws' := mw G ad forms sizes f_items_1 moved latest rows fresh oldMask oldRows known drawn label pile parts m_waitX_1 m_waitY_1 m_waitSide_1 m_waits_1 m_sign_1 m_signs_1 m_many_1) (by subst ef_items_1; exact rfl) hin_5 dX6_write_109 ?_
                refine v_iinc C (x5_1 + 1) 0 [(5, .int (x5_1 + 1)), (4, .int r_5), (0, .ref (ad 0)), (1, .int a1), (2, .int a2), (3, .int a3)] dX6_write_110 rfl rfl (by decide) rfl ?_
                refine v_goto C 73 dX6_write_113 (by decide) ?_
                exact ih_1 (x5_1 + 1) f_items_1 h
          obtain ⟨k_1, h⟩ := h
          exact hl_1 k_1 0 items h
        · replace h := h.2 c_2
          refine v_aload_n C dX6_write_38 rfl 0 rfl ?_
          refine v_iconst C 1 dX6_write_39 (by decide) ?_
          refine v_callVi C (c_Md_finds l G ad forms sizes items moved latest rows fresh oldMask oldRows known drawn label pile parts waitX waitY waitSide waits sign signs many 1 h) 0 rfl rfl gX6_write_X6_finds rfl kX6_finds ⟨rfl, rfl⟩ ⟨Nat.le_of_ble_eq_true rfl, Nat.le_of_ble_eq_true rfl⟩ rfl (Nat.le_of_ble_eq_true rfl) dX6_write_40 (fun r_7 m_latest_1 h => ?_)
          try dsimp only at h
          refine v_world (ws' := mw G ad forms sizes items moved m_latest_1 rows fresh oldMask oldRows known drawn label pile parts waitX waitY waitSide waits sign signs many) rfl ?_
          exact hret _ _ _ r_7 (items, m_latest_1, waitX, waitY, waitSide, waits, sign, signs, many) h rfl dX6_write_43
      · replace h := h.1 c_3
        refine v_bipush C (-2) dX6_write_26 (by decide) ?_
        exact hret _ _ _ (-2) (items, latest, waitX, waitY, waitSide, waits, sign, signs, many) h rfl dX6_write_28
-- QuarterMasksModel.allBlocks
def rmX6_allBlocks : Room := { frames := 6, cells := 0, slots := 0, locals := 157 }
theorem kX6_allBlocks : yX6_allBlocks.cls = RX6 ∧ yX6_allBlocks.cls ≠ "java/lang/invoke/MethodHandle" ∧ yX6_allBlocks.cls ≠ "java/lang/invoke/VarHandle" ∧ (parseMethodDescriptor yX6_allBlocks.desc).map (fun d => d.parameters.length) = some 0 := by decide +kernel
def wl_Md_allBlocks_4 (rows : IA) (Q : Int32 → IA → IA → IA → Int32 → IA → Int32 → IA → Prop) : Nat → Int32 → Int32 → IA → IA → IA → Int32 → IA → Int32 → IA → Prop
  | 0, _, _, _, _, _, _, _, _, _ => False
  | n + 1, x2_1, x1_1, waitX_1, waitY_1, waitSide_1, waits_1, sign_1, signs_1, many_1 => (4 ≤ x2_1 → (Q x1_1 waitX_1 waitY_1 waitSide_1 waits_1 sign_1 signs_1 many_1)) ∧ (¬ 4 ≤ x2_1 → (wp_Md_blocksBy rows waitX_1 waitY_1 waitSide_1 sign_1 many_1 x2_1 0 (fun r_1 m_waitX_1 m_waitY_1 m_waitSide_1 m_waits_1 m_sign_1 m_signs_1 m_many_1 => ∀ x1_2 : Int32, x1_2 = (x1_1 + r_1) → ((wl_Md_allBlocks_4 rows Q n) (x2_1 + 1) x1_2 m_waitX_1 m_waitY_1 m_waitSide_1 m_waits_1 m_sign_1 m_signs_1 m_many_1))))
def wp_Md_allBlocks (rows : IA) (waitX : IA) (waitY : IA) (waitSide : IA) (waits : Int32) (sign : IA) (signs : Int32) (many : IA)  (Q : Int32 → IA → IA → IA → Int32 → IA → Int32 → IA → Prop) : Prop :=
  ∃ k_1 : Nat, wl_Md_allBlocks_4 rows Q k_1 0 0 waitX waitY waitSide waits sign signs many
set_option maxHeartbeats 4000000 in
theorem c_Md_allBlocks (l : Launch) (G : GG) (ad : Nat → Nat) (forms : IA) (sizes : IA) (items : IA) (moved : IA) (latest : Int32) (rows : IA) (fresh : IA) (oldMask : IA) (oldRows : IA) (known : Int32) (drawn : Int32) (label : IA) (pile : IA) (parts : Int32) (waitX : IA) (waitY : IA) (waitSide : IA) (waits : Int32) (sign : IA) (signs : Int32) (many : IA)  {Q : Int32 → IA → IA → IA → Int32 → IA → Int32 → IA → Prop} (h : wp_Md_allBlocks rows waitX waitY waitSide waits sign signs many Q) : qm_MI l yX6_allBlocks wsX6_allBlocks rmX6_allBlocks G [.ref (ad 0)] (mw G ad forms sizes items moved latest rows fresh oldMask oldRows known drawn label pile parts waitX waitY waitSide waits sign signs many) (fun (r : Int32) (u : IA × IA × IA × Int32 × IA × Int32 × IA) => Q r u.1 u.2.1 u.2.2.1 u.2.2.2.1 u.2.2.2.2.1 u.2.2.2.2.2.1 u.2.2.2.2.2.2) (fun (u : IA × IA × IA × Int32 × IA × Int32 × IA) => mw G ad forms sizes items moved latest rows fresh oldMask oldRows known drawn label pile parts u.1 u.2.1 u.2.2.1 u.2.2.2.1 u.2.2.2.2.1 u.2.2.2.2.2.1 u.2.2.2.2.2.2) := by
  refine qm_mkI (cc := cX6_allBlocks) (maxL := 3) (by decide) rfl (Nat.le_of_ble_eq_true rfl) ?_
  intro X C hret
  replace C : qm_C G 3 X cX6_allBlocks wsX6_allBlocks RX6 := C
  refine v_lv (lv' := [(0, .ref (ad 0))]) rfl ?_
  unfold wp_Md_allBlocks at h
  refine v_iconst C 0 dX6_allBlocks_0 (by decide) ?_
  refine v_istore_n C [(1, .int 0), (0, .ref (ad 0))] dX6_allBlocks_1 rfl (by decide) rfl ?_
  refine v_iconst C 0 dX6_allBlocks_2 (by decide) ?_
  refine v_istore_n C [(2, .int 0), (1, .int 0), (0, .ref (ad 0))] dX6_allBlocks_3 rfl (by decide) rfl ?_
  have hl_1 : ∀ n_1 : Nat, ∀ (x2_1 : Int32) (x1_1 : Int32) (waitX_1 : IA) (waitY_1 : IA) (waitSide_1 : IA) (waits_1 : Int32) (sign_1 : IA) (signs_1 : Int32) (many_1 : IA), wl_Md_allBlocks_4 rows Q n_1 x2_1 x1_1 waitX_1 waitY_1 waitSide_1 waits_1 sign_1 signs_1 many_1 → qm_V l G rmX6_allBlocks 3 X (mw G ad forms sizes items moved latest rows fresh oldMask oldRows known drawn label pile parts waitX_1 waitY_1 waitSide_1 waits_1 sign_1 signs_1 many_1) [(2, .int x2_1), (1, .int x1_1), (0, .ref (ad 0))] 4 [] := by
    intro n_1
    induction n_1 with
    | zero =>
      intro x2_1 x1_1 waitX_1 waitY_1 waitSide_1 waits_1 sign_1 signs_1 many_1 h
      exact False.elim h
    | succ n_1 ih_1 =>
      intro x2_1 x1_1 waitX_1 waitY_1 waitSide_1 waits_1 sign_1 signs_1 many_1 h
      rw [wl_Md_allBlocks_4] at h
      refine v_iload_n C dX6_allBlocks_4 rfl 0 rfl ?_
      refine v_iconst C 4 dX6_allBlocks_5 (by decide) ?_
      refine v_icmp_ge C 24 dX6_allBlocks_6 (by decide) (fun c_1 => ?_) (fun c_1 => ?_)
      · replace h := h.1 c_1
        refine v_iload_n C dX6_allBlocks_24 rfl 1 rfl ?_
        exact hret _ _ _ x1_1 (waitX_1, waitY_1, waitSide_1, waits_1, sign_1, signs_1, many_1) h rfl dX6_allBlocks_25
      · replace h := h.2 c_1
        refine v_iload_n C dX6_allBlocks_9 rfl 1 rfl ?_
        refine v_aload_n C dX6_allBlocks_10 rfl 2 rfl ?_
        refine v_iload_n C dX6_allBlocks_11 rfl 0 rfl ?_
        refine v_iconst C 0 dX6_allBlocks_12 (by decide) ?_
        refine v_callVi C (c_Md_blocksBy l G ad forms sizes items moved latest rows fresh oldMask oldRows known drawn label pile parts waitX_1 waitY_1 waitSide_1 waits_1 sign_1 signs_1 many_1 x2_1 0 h) 0 rfl rfl gX6_allBlocks_X6_blocksBy rfl kX6_blocksBy ⟨rfl, rfl⟩ ⟨Nat.le_of_ble_eq_true rfl, Nat.le_of_ble_eq_true rfl⟩ rfl (Nat.le_of_ble_eq_true rfl) dX6_allBlocks_13 (fun r_1 u h => ?_)
        obtain ⟨m_waitX_1, m_waitY_1, m_waitSide_1, m_waits_1, m_sign_1, m_signs_1, m_many_1⟩ := u
        try dsimp only at h
        refine v_world (ws' := mw G ad forms sizes items moved latest rows fresh oldMask oldRows known drawn label pile parts m_waitX_1 m_waitY_1 m_waitSide_1 m_waits_1 m_sign_1 m_signs_1 m_many_1) rfl ?_
        refine v_iadd C dX6_allBlocks_16 ?_
        refine v_topi (fun x1_2 ex1_2 => ?_)
        replace h := h x1_2 ex1_2
        refine v_istore_n C [(1, .int x1_2), (2, .int x2_1), (0, .ref (ad 0))] dX6_allBlocks_17 rfl (by decide) rfl ?_
        refine v_iinc C (x2_1 + 1) 1 [(2, .int (x2_1 + 1)), (1, .int x1_2), (0, .ref (ad 0))] dX6_allBlocks_18 rfl rfl (by decide) rfl ?_
        refine v_goto C 4 dX6_allBlocks_21 (by decide) ?_
        exact ih_1 (x2_1 + 1) x1_2 m_waitX_1 m_waitY_1 m_waitSide_1 m_waits_1 m_sign_1 m_signs_1 m_many_1 h
  obtain ⟨k_1, h⟩ := h
  exact hl_1 k_1 0 0 waitX waitY waitSide waits sign signs many h
-- QuarterMasksModel.allParts
def rmX6_allParts : Room := { frames := 7, cells := 0, slots := 0, locals := 181 }
theorem kX6_allParts : yX6_allParts.cls = RX6 ∧ yX6_allParts.cls ≠ "java/lang/invoke/MethodHandle" ∧ yX6_allParts.cls ≠ "java/lang/invoke/VarHandle" ∧ (parseMethodDescriptor yX6_allParts.desc).map (fun d => d.parameters.length) = some 0 := by decide +kernel
def wl_Md_allParts_4 (rows : IA) (Q : Int32 → IA → IA → Int32 → Prop) : Nat → Int32 → Int32 → IA → IA → Int32 → Prop
  | 0, _, _, _, _, _ => False
  | n + 1, x2_1, x1_1, label_1, pile_1, parts_1 => (4 ≤ x2_1 → (Q x1_1 label_1 pile_1 parts_1)) ∧ (¬ 4 ≤ x2_1 → (wp_Md_partsOf rows label_1 pile_1 x2_1 (fun r_1 m_label_1 m_pile_1 m_parts_1 => ∀ x1_2 : Int32, x1_2 = (x1_1 + r_1) → ((wl_Md_allParts_4 rows Q n) (x2_1 + 1) x1_2 m_label_1 m_pile_1 m_parts_1))))
def wp_Md_allParts (rows : IA) (label : IA) (pile : IA) (parts : Int32)  (Q : Int32 → IA → IA → Int32 → Prop) : Prop :=
  ∃ k_1 : Nat, wl_Md_allParts_4 rows Q k_1 0 0 label pile parts
set_option maxHeartbeats 4000000 in
theorem c_Md_allParts (l : Launch) (G : GG) (ad : Nat → Nat) (forms : IA) (sizes : IA) (items : IA) (moved : IA) (latest : Int32) (rows : IA) (fresh : IA) (oldMask : IA) (oldRows : IA) (known : Int32) (drawn : Int32) (label : IA) (pile : IA) (parts : Int32) (waitX : IA) (waitY : IA) (waitSide : IA) (waits : Int32) (sign : IA) (signs : Int32) (many : IA)  {Q : Int32 → IA → IA → Int32 → Prop} (h : wp_Md_allParts rows label pile parts Q) : qm_MI l yX6_allParts wsX6_allParts rmX6_allParts G [.ref (ad 0)] (mw G ad forms sizes items moved latest rows fresh oldMask oldRows known drawn label pile parts waitX waitY waitSide waits sign signs many) (fun (r : Int32) (u : IA × IA × Int32) => Q r u.1 u.2.1 u.2.2) (fun (u : IA × IA × Int32) => mw G ad forms sizes items moved latest rows fresh oldMask oldRows known drawn u.1 u.2.1 u.2.2 waitX waitY waitSide waits sign signs many) := by
  refine qm_mkI (cc := cX6_allParts) (maxL := 3) (by decide) rfl (Nat.le_of_ble_eq_true rfl) ?_
  intro X C hret
  replace C : qm_C G 3 X cX6_allParts wsX6_allParts RX6 := C
  refine v_lv (lv' := [(0, .ref (ad 0))]) rfl ?_
  unfold wp_Md_allParts at h
  refine v_iconst C 0 dX6_allParts_0 (by decide) ?_
  refine v_istore_n C [(1, .int 0), (0, .ref (ad 0))] dX6_allParts_1 rfl (by decide) rfl ?_
  refine v_iconst C 0 dX6_allParts_2 (by decide) ?_
  refine v_istore_n C [(2, .int 0), (1, .int 0), (0, .ref (ad 0))] dX6_allParts_3 rfl (by decide) rfl ?_
  have hl_1 : ∀ n_1 : Nat, ∀ (x2_1 : Int32) (x1_1 : Int32) (label_1 : IA) (pile_1 : IA) (parts_1 : Int32), wl_Md_allParts_4 rows Q n_1 x2_1 x1_1 label_1 pile_1 parts_1 → qm_V l G rmX6_allParts 3 X (mw G ad forms sizes items moved latest rows fresh oldMask oldRows known drawn label_1 pile_1 parts_1 waitX waitY waitSide waits sign signs many) [(2, .int x2_1), (1, .int x1_1), (0, .ref (ad 0))] 4 [] := by
    intro n_1
    induction n_1 with
    | zero =>
      intro x2_1 x1_1 label_1 pile_1 parts_1 h
      exact False.elim h
    | succ n_1 ih_1 =>
      intro x2_1 x1_1 label_1 pile_1 parts_1 h
      rw [wl_Md_allParts_4] at h
      refine v_iload_n C dX6_allParts_4 rfl 0 rfl ?_
      refine v_iconst C 4 dX6_allParts_5 (by decide) ?_
      refine v_icmp_ge C 23 dX6_allParts_6 (by decide) (fun c_1 => ?_) (fun c_1 => ?_)
      · replace h := h.1 c_1
        refine v_iload_n C dX6_allParts_23 rfl 1 rfl ?_
        exact hret _ _ _ x1_1 (label_1, pile_1, parts_1) h rfl dX6_allParts_24
      · replace h := h.2 c_1
        refine v_iload_n C dX6_allParts_9 rfl 1 rfl ?_
        refine v_aload_n C dX6_allParts_10 rfl 2 rfl ?_
        refine v_iload_n C dX6_allParts_11 rfl 0 rfl ?_
        refine v_callVi C (c_Md_partsOf l G ad forms sizes items moved latest rows fresh oldMask oldRows known drawn label_1 pile_1 parts_1 waitX waitY waitSide waits sign signs many x2_1 h) 0 rfl rfl gX6_allParts_X6_partsOf rfl kX6_partsOf ⟨rfl, rfl⟩ ⟨Nat.le_of_ble_eq_true rfl, Nat.le_of_ble_eq_true rfl⟩ rfl (Nat.le_of_ble_eq_true rfl) dX6_allParts_12 (fun r_1 u h => ?_)
        obtain ⟨m_label_1, m_pile_1, m_parts_1⟩ := u
        try dsimp only at h
        refine v_world (ws' := mw G ad forms sizes items moved latest rows fresh oldMask oldRows known drawn m_label_1 m_pile_1 m_parts_1 waitX waitY waitSide waits sign signs many) rfl ?_
        refine v_iadd C dX6_allParts_15 ?_
        refine v_topi (fun x1_2 ex1_2 => ?_)
        replace h := h x1_2 ex1_2
        refine v_istore_n C [(1, .int x1_2), (2, .int x2_1), (0, .ref (ad 0))] dX6_allParts_16 rfl (by decide) rfl ?_
        refine v_iinc C (x2_1 + 1) 1 [(2, .int (x2_1 + 1)), (1, .int x1_2), (0, .ref (ad 0))] dX6_allParts_17 rfl rfl (by decide) rfl ?_
        refine v_goto C 4 dX6_allParts_20 (by decide) ?_
        exact ih_1 (x2_1 + 1) x1_2 m_label_1 m_pile_1 m_parts_1 h
  obtain ⟨k_1, h⟩ := h
  exact hl_1 k_1 0 0 label pile parts h
-- QuarterMasksModel.inAll
def rmX6_inAll : Room := { frames := 4, cells := 0, slots := 0, locals := 109 }
theorem kX6_inAll : yX6_inAll.cls = RX6 ∧ yX6_inAll.cls ≠ "java/lang/invoke/MethodHandle" ∧ yX6_inAll.cls ≠ "java/lang/invoke/VarHandle" ∧ (parseMethodDescriptor yX6_inAll.desc).map (fun d => d.parameters.length) = some 0 := by decide +kernel
def wl_Md_inAll_4 (rows : IA) (Q : Int32 → Prop) : Nat → Int32 → Int32 → Prop
  | 0, _, _ => False
  | n + 1, x2_1, x1_1 => (256 ≤ x2_1 → (Q x1_1)) ∧ (¬ 256 ≤ x2_1 → (∀ x3_1 : Int32, x3_1 = (jrem x2_1 16) → (∀ x4_1 : Int32, x4_1 = (x2_1 / 16) → (wp_Md_dark rows 0 x3_1 x4_1 (fun r_1 => wp_Md_dark rows 1 x3_1 x4_1 (fun r_2 => wp_Md_dark rows 2 x3_1 x4_1 (fun r_3 => wp_Md_dark rows 3 x3_1 x4_1 (fun r_4 => ∀ x1_2 : Int32, x1_2 = (x1_1 + (((r_1 &&& r_2) &&& r_3) &&& r_4)) → ((wl_Md_inAll_4 rows Q n) (x2_1 + 1) x1_2)))))))))
def wp_Md_inAll (rows : IA)  (Q : Int32 → Prop) : Prop :=
  ∃ k_1 : Nat, wl_Md_inAll_4 rows Q k_1 0 0
set_option maxHeartbeats 4000000 in
theorem c_Md_inAll (l : Launch) (G : GG) (ad : Nat → Nat) (forms : IA) (sizes : IA) (items : IA) (moved : IA) (latest : Int32) (rows : IA) (fresh : IA) (oldMask : IA) (oldRows : IA) (known : Int32) (drawn : Int32) (label : IA) (pile : IA) (parts : Int32) (waitX : IA) (waitY : IA) (waitSide : IA) (waits : Int32) (sign : IA) (signs : Int32) (many : IA)  {Q : Int32 → Prop} (h : wp_Md_inAll rows Q) : qm_MI l yX6_inAll wsX6_inAll rmX6_inAll G [.ref (ad 0)] (mw G ad forms sizes items moved latest rows fresh oldMask oldRows known drawn label pile parts waitX waitY waitSide waits sign signs many) (fun (r : Int32) (_ : Unit) => Q r) (fun (_ : Unit) => mw G ad forms sizes items moved latest rows fresh oldMask oldRows known drawn label pile parts waitX waitY waitSide waits sign signs many) := by
  refine qm_mkI (cc := cX6_inAll) (maxL := 5) (by decide) rfl (Nat.le_of_ble_eq_true rfl) ?_
  intro X C hret
  replace C : qm_C G 5 X cX6_inAll wsX6_inAll RX6 := C
  refine v_lv (lv' := [(0, .ref (ad 0))]) rfl ?_
  unfold wp_Md_inAll at h
  refine v_iconst C 0 dX6_inAll_0 (by decide) ?_
  refine v_istore_n C [(1, .int 0), (0, .ref (ad 0))] dX6_inAll_1 rfl (by decide) rfl ?_
  refine v_iconst C 0 dX6_inAll_2 (by decide) ?_
  refine v_istore_n C [(2, .int 0), (1, .int 0), (0, .ref (ad 0))] dX6_inAll_3 rfl (by decide) rfl ?_
  have hl_1 : ∀ n_1 : Nat, ∀ (x2_1 : Int32) (x1_1 : Int32), wl_Md_inAll_4 rows Q n_1 x2_1 x1_1 → qm_V l G rmX6_inAll 5 X (mw G ad forms sizes items moved latest rows fresh oldMask oldRows known drawn label pile parts waitX waitY waitSide waits sign signs many) [(2, .int x2_1), (1, .int x1_1), (0, .ref (ad 0))] 4 [] := by
    intro n_1
    induction n_1 with
    | zero =>
      intro x2_1 x1_1 h
      exact False.elim h
    | succ n_1 ih_1 =>
      intro x2_1 x1_1 h
      rw [wl_Md_inAll_4] at h
      refine v_iload_n C dX6_inAll_4 rfl 0 rfl ?_
      refine v_sipush C 256 dX6_inAll_5 (by decide) ?_
      refine v_icmp_ge C 66 dX6_inAll_8 (by decide) (fun c_1 => ?_) (fun c_1 => ?_)
      · replace h := h.1 c_1
        refine v_iload_n C dX6_inAll_66 rfl 1 rfl ?_
        exact hret _ _ _ x1_1 () h rfl dX6_inAll_67
      · replace h := h.2 c_1
        refine v_iload_n C dX6_inAll_11 rfl 0 rfl ?_
        refine v_bipush C 16 dX6_inAll_12 (by decide) ?_
        refine v_irem C dX6_inAll_14 (by decide) ?_
        refine v_topi (fun x3_1 ex3_1 => ?_)
        replace h := h x3_1 ex3_1
        refine v_istore_n C [(3, .int x3_1), (2, .int x2_1), (1, .int x1_1), (0, .ref (ad 0))] dX6_inAll_15 rfl (by decide) rfl ?_
        refine v_iload_n C dX6_inAll_16 rfl 1 rfl ?_
        refine v_bipush C 16 dX6_inAll_17 (by decide) ?_
        refine v_idiv C dX6_inAll_19 (by decide) ?_
        refine v_topi (fun x4_1 ex4_1 => ?_)
        replace h := h x4_1 ex4_1
        refine v_istore C [(4, .int x4_1), (3, .int x3_1), (2, .int x2_1), (1, .int x1_1), (0, .ref (ad 0))] dX6_inAll_20 (by decide) rfl ?_
        refine v_iload_n C dX6_inAll_22 rfl 3 rfl ?_
        refine v_aload_n C dX6_inAll_23 rfl 4 rfl ?_
        refine v_iconst C 0 dX6_inAll_24 (by decide) ?_
        refine v_iload_n C dX6_inAll_25 rfl 1 rfl ?_
        refine v_iload C dX6_inAll_26 0 rfl ?_
        refine v_callVi C (c_Md_dark l G ad forms sizes items moved latest rows fresh oldMask oldRows known drawn label pile parts waitX waitY waitSide waits sign signs many 0 x3_1 x4_1 h) 0 rfl rfl gX6_inAll_X6_dark rfl kX6_dark ⟨rfl, rfl⟩ ⟨Nat.le_of_ble_eq_true rfl, Nat.le_of_ble_eq_true rfl⟩ rfl (Nat.le_of_ble_eq_true rfl) dX6_inAll_28 (fun r_1 _ h => ?_)
        try dsimp only at h
        refine v_aload_n C dX6_inAll_31 rfl 4 rfl ?_
        refine v_iconst C 1 dX6_inAll_32 (by decide) ?_
        refine v_iload_n C dX6_inAll_33 rfl 1 rfl ?_
        refine v_iload C dX6_inAll_34 0 rfl ?_
        refine v_callVi C (c_Md_dark l G ad forms sizes items moved latest rows fresh oldMask oldRows known drawn label pile parts waitX waitY waitSide waits sign signs many 1 x3_1 x4_1 h) 0 rfl rfl gX6_inAll_X6_dark rfl kX6_dark ⟨rfl, rfl⟩ ⟨Nat.le_of_ble_eq_true rfl, Nat.le_of_ble_eq_true rfl⟩ rfl (Nat.le_of_ble_eq_true rfl) dX6_inAll_36 (fun r_2 _ h => ?_)
        try dsimp only at h
        refine v_iand C dX6_inAll_39 ?_
        refine v_aload_n C dX6_inAll_40 rfl 4 rfl ?_
        refine v_iconst C 2 dX6_inAll_41 (by decide) ?_
        refine v_iload_n C dX6_inAll_42 rfl 1 rfl ?_
        refine v_iload C dX6_inAll_43 0 rfl ?_
        refine v_callVi C (c_Md_dark l G ad forms sizes items moved latest rows fresh oldMask oldRows known drawn label pile parts waitX waitY waitSide waits sign signs many 2 x3_1 x4_1 h) 0 rfl rfl gX6_inAll_X6_dark rfl kX6_dark ⟨rfl, rfl⟩ ⟨Nat.le_of_ble_eq_true rfl, Nat.le_of_ble_eq_true rfl⟩ rfl (Nat.le_of_ble_eq_true rfl) dX6_inAll_45 (fun r_3 _ h => ?_)
        try dsimp only at h
        refine v_iand C dX6_inAll_48 ?_
        refine v_aload_n C dX6_inAll_49 rfl 4 rfl ?_
        refine v_iconst C 3 dX6_inAll_50 (by decide) ?_
        refine v_iload_n C dX6_inAll_51 rfl 1 rfl ?_
        refine v_iload C dX6_inAll_52 0 rfl ?_
        refine v_callVi C (c_Md_dark l G ad forms sizes items moved latest rows fresh oldMask oldRows known drawn label pile parts waitX waitY waitSide waits sign signs many 3 x3_1 x4_1 h) 0 rfl rfl gX6_inAll_X6_dark rfl kX6_dark ⟨rfl, rfl⟩ ⟨Nat.le_of_ble_eq_true rfl, Nat.le_of_ble_eq_true rfl⟩ rfl (Nat.le_of_ble_eq_true rfl) dX6_inAll_54 (fun r_4 _ h => ?_)
        try dsimp only at h
        refine v_iand C dX6_inAll_57 ?_
        refine v_iadd C dX6_inAll_58 ?_
        refine v_topi (fun x1_2 ex1_2 => ?_)
        replace h := h x1_2 ex1_2
        refine v_istore_n C [(1, .int x1_2), (4, .int x4_1), (3, .int x3_1), (2, .int x2_1), (0, .ref (ad 0))] dX6_inAll_59 rfl (by decide) rfl ?_
        refine v_iinc C (x2_1 + 1) 3 [(2, .int (x2_1 + 1)), (1, .int x1_2), (4, .int x4_1), (3, .int x3_1), (0, .ref (ad 0))] dX6_inAll_60 rfl rfl (by decide) rfl ?_
        refine v_goto C 4 dX6_inAll_63 (by decide) ?_
        refine v_perm [0, 1, 4] rfl ?_
        exact ih_1 (x2_1 + 1) x1_2 h
  obtain ⟨k_1, h⟩ := h
  exact hl_1 k_1 0 0 h
-- QuarterMasksModel.count
def rmX6_count : Room := { frames := 8, cells := 0, slots := 0, locals := 203 }
theorem kX6_count : yX6_count.cls = RX6 ∧ yX6_count.cls ≠ "java/lang/invoke/MethodHandle" ∧ yX6_count.cls ≠ "java/lang/invoke/VarHandle" ∧ (parseMethodDescriptor yX6_count.desc).map (fun d => d.parameters.length) = some 1 := by decide +kernel
theorem mX6_count_w1 : Cond.fieldLink RX6 93 "QuarterMasksModel" "known" "I" ∈ wsX6_count := List.mem_of_getElem? (i := 1) rfl
theorem iX6_count_6 : ∀ w ∈ wsX60, w ∈ wsX6_count := fun w h => List.mem_cons_of_mem _ (List.mem_append_right _ h)
theorem mX6_count_w2 : Cond.fieldLink RX6 59 "QuarterMasksModel" "latest" "I" ∈ wsX6_count := List.mem_of_getElem? (i := 2) rfl
def wp_Md_count (latest : Int32) (rows : IA) (known : Int32) (label : IA) (pile : IA) (parts : Int32) (waitX : IA) (waitY : IA) (waitSide : IA) (waits : Int32) (sign : IA) (signs : Int32) (many : IA) (a1 : Int32) (Q : Int32 → IA → IA → Int32 → IA → IA → IA → Int32 → IA → Int32 → IA → Prop) : Prop :=
  (a1 = 0 → (wp_Md_darkOf rows a1 (fun r_1 => Q r_1 label pile parts waitX waitY waitSide waits sign signs many))) ∧ (¬ a1 = 0 → ((a1 = 1 → (wp_Md_darkOf rows a1 (fun r_2 => Q r_2 label pile parts waitX waitY waitSide waits sign signs many))) ∧ (¬ a1 = 1 → ((a1 = 2 → (wp_Md_darkOf rows a1 (fun r_3 => Q r_3 label pile parts waitX waitY waitSide waits sign signs many))) ∧ (¬ a1 = 2 → ((a1 = 3 → (wp_Md_darkOf rows a1 (fun r_4 => Q r_4 label pile parts waitX waitY waitSide waits sign signs many))) ∧ (¬ a1 = 3 → ((a1 = 4 → (wp_Md_allBlocks rows waitX waitY waitSide waits sign signs many (fun r_5 m_waitX_1 m_waitY_1 m_waitSide_1 m_waits_1 m_sign_1 m_signs_1 m_many_1 => Q r_5 label pile parts m_waitX_1 m_waitY_1 m_waitSide_1 m_waits_1 m_sign_1 m_signs_1 m_many_1))) ∧ (¬ a1 = 4 → ((a1 = 5 → (wp_Md_allParts rows label pile parts (fun r_6 m_label_1 m_pile_1 m_parts_1 => Q r_6 m_label_1 m_pile_1 m_parts_1 waitX waitY waitSide waits sign signs many))) ∧ (¬ a1 = 5 → ((a1 = 6 → (Q known label pile parts waitX waitY waitSide waits sign signs many)) ∧ (¬ a1 = 6 → ((a1 = 7 → (wp_Md_inAll rows (fun r_7 => Q r_7 label pile parts waitX waitY waitSide waits sign signs many))) ∧ (¬ a1 = 7 → ((a1 = 8 → (Q latest label pile parts waitX waitY waitSide waits sign signs many)) ∧ (¬ a1 = 8 → (Q (-2) label pile parts waitX waitY waitSide waits sign signs many))))))))))))))))))
set_option maxHeartbeats 4000000 in
theorem c_Md_count (l : Launch) (G : GG) (ad : Nat → Nat) (forms : IA) (sizes : IA) (items : IA) (moved : IA) (latest : Int32) (rows : IA) (fresh : IA) (oldMask : IA) (oldRows : IA) (known : Int32) (drawn : Int32) (label : IA) (pile : IA) (parts : Int32) (waitX : IA) (waitY : IA) (waitSide : IA) (waits : Int32) (sign : IA) (signs : Int32) (many : IA) (a1 : Int32) {Q : Int32 → IA → IA → Int32 → IA → IA → IA → Int32 → IA → Int32 → IA → Prop} (h : wp_Md_count latest rows known label pile parts waitX waitY waitSide waits sign signs many a1 Q) : qm_MI l yX6_count wsX6_count rmX6_count G [.ref (ad 0), .int a1] (mw G ad forms sizes items moved latest rows fresh oldMask oldRows known drawn label pile parts waitX waitY waitSide waits sign signs many) (fun (r : Int32) (u : IA × IA × Int32 × IA × IA × IA × Int32 × IA × Int32 × IA) => Q r u.1 u.2.1 u.2.2.1 u.2.2.2.1 u.2.2.2.2.1 u.2.2.2.2.2.1 u.2.2.2.2.2.2.1 u.2.2.2.2.2.2.2.1 u.2.2.2.2.2.2.2.2.1 u.2.2.2.2.2.2.2.2.2) (fun (u : IA × IA × Int32 × IA × IA × IA × Int32 × IA × Int32 × IA) => mw G ad forms sizes items moved latest rows fresh oldMask oldRows known drawn u.1 u.2.1 u.2.2.1 u.2.2.2.1 u.2.2.2.2.1 u.2.2.2.2.2.1 u.2.2.2.2.2.2.1 u.2.2.2.2.2.2.2.1 u.2.2.2.2.2.2.2.2.1 u.2.2.2.2.2.2.2.2.2) := by
  refine qm_mkI (cc := cX6_count) (maxL := 2) (by decide) rfl (Nat.le_of_ble_eq_true rfl) ?_
  intro X C hret
  replace C : qm_C G 2 X cX6_count wsX6_count RX6 := C
  refine v_lv (lv' := [(0, .ref (ad 0)), (1, .int a1)]) rfl ?_
  unfold wp_Md_count at h
  refine v_iload_n C dX6_count_0 rfl 1 rfl ?_
  by_cases c_1 : a1 = 0
  · replace h := h.1 c_1
    refine v_tin C 0 52 c_1 dX6_count_1 (by decide) rfl (by decide) ?_
    refine v_aload_n C dX6_count_52 rfl 0 rfl ?_
    refine v_iload_n C dX6_count_53 rfl 1 rfl ?_
    refine v_callVi C (c_Md_darkOf l G ad forms sizes items moved latest rows fresh oldMask oldRows known drawn label pile parts waitX waitY waitSide waits sign signs many a1 h) 0 rfl rfl gX6_count_X6_darkOf rfl kX6_darkOf ⟨rfl, rfl⟩ ⟨Nat.le_of_ble_eq_true rfl, Nat.le_of_ble_eq_true rfl⟩ rfl (Nat.le_of_ble_eq_true rfl) dX6_count_54 (fun r_1 _ h => ?_)
    try dsimp only at h
    exact hret _ _ _ r_1 (label, pile, parts, waitX, waitY, waitSide, waits, sign, signs, many) h rfl dX6_count_57
  · replace h := h.2 c_1
    by_cases c_2 : a1 = 1
    · replace h := h.1 c_2
      refine v_tin C 1 52 c_2 dX6_count_1 (by decide) rfl (by decide) ?_
      refine v_aload_n C dX6_count_52 rfl 0 rfl ?_
      refine v_iload_n C dX6_count_53 rfl 1 rfl ?_
      refine v_callVi C (c_Md_darkOf l G ad forms sizes items moved latest rows fresh oldMask oldRows known drawn label pile parts waitX waitY waitSide waits sign signs many a1 h) 0 rfl rfl gX6_count_X6_darkOf rfl kX6_darkOf ⟨rfl, rfl⟩ ⟨Nat.le_of_ble_eq_true rfl, Nat.le_of_ble_eq_true rfl⟩ rfl (Nat.le_of_ble_eq_true rfl) dX6_count_54 (fun r_2 _ h => ?_)
      try dsimp only at h
      exact hret _ _ _ r_2 (label, pile, parts, waitX, waitY, waitSide, waits, sign, signs, many) h rfl dX6_count_57
    · replace h := h.2 c_2
      by_cases c_3 : a1 = 2
      · replace h := h.1 c_3
        refine v_tin C 2 52 c_3 dX6_count_1 (by decide) rfl (by decide) ?_
        refine v_aload_n C dX6_count_52 rfl 0 rfl ?_
        refine v_iload_n C dX6_count_53 rfl 1 rfl ?_
        refine v_callVi C (c_Md_darkOf l G ad forms sizes items moved latest rows fresh oldMask oldRows known drawn label pile parts waitX waitY waitSide waits sign signs many a1 h) 0 rfl rfl gX6_count_X6_darkOf rfl kX6_darkOf ⟨rfl, rfl⟩ ⟨Nat.le_of_ble_eq_true rfl, Nat.le_of_ble_eq_true rfl⟩ rfl (Nat.le_of_ble_eq_true rfl) dX6_count_54 (fun r_3 _ h => ?_)
        try dsimp only at h
        exact hret _ _ _ r_3 (label, pile, parts, waitX, waitY, waitSide, waits, sign, signs, many) h rfl dX6_count_57
      · replace h := h.2 c_3
        by_cases c_4 : a1 = 3
        · replace h := h.1 c_4
          refine v_tin C 3 52 c_4 dX6_count_1 (by decide) rfl (by decide) ?_
          refine v_aload_n C dX6_count_52 rfl 0 rfl ?_
          refine v_iload_n C dX6_count_53 rfl 1 rfl ?_
          refine v_callVi C (c_Md_darkOf l G ad forms sizes items moved latest rows fresh oldMask oldRows known drawn label pile parts waitX waitY waitSide waits sign signs many a1 h) 0 rfl rfl gX6_count_X6_darkOf rfl kX6_darkOf ⟨rfl, rfl⟩ ⟨Nat.le_of_ble_eq_true rfl, Nat.le_of_ble_eq_true rfl⟩ rfl (Nat.le_of_ble_eq_true rfl) dX6_count_54 (fun r_4 _ h => ?_)
          try dsimp only at h
          exact hret _ _ _ r_4 (label, pile, parts, waitX, waitY, waitSide, waits, sign, signs, many) h rfl dX6_count_57
        · replace h := h.2 c_4
          by_cases c_5 : a1 = 4
          · replace h := h.1 c_5
            refine v_tin C 4 58 c_5 dX6_count_1 (by decide) rfl (by decide) ?_
            refine v_aload_n C dX6_count_58 rfl 0 rfl ?_
            refine v_callVi C (c_Md_allBlocks l G ad forms sizes items moved latest rows fresh oldMask oldRows known drawn label pile parts waitX waitY waitSide waits sign signs many h) 0 rfl rfl gX6_count_X6_allBlocks rfl kX6_allBlocks ⟨rfl, rfl⟩ ⟨Nat.le_of_ble_eq_true rfl, Nat.le_of_ble_eq_true rfl⟩ rfl (Nat.le_of_ble_eq_true rfl) dX6_count_59 (fun r_5 u h => ?_)
            obtain ⟨m_waitX_1, m_waitY_1, m_waitSide_1, m_waits_1, m_sign_1, m_signs_1, m_many_1⟩ := u
            try dsimp only at h
            refine v_world (ws' := mw G ad forms sizes items moved latest rows fresh oldMask oldRows known drawn label pile parts m_waitX_1 m_waitY_1 m_waitSide_1 m_waits_1 m_sign_1 m_signs_1 m_many_1) rfl ?_
            exact hret _ _ _ r_5 (label, pile, parts, m_waitX_1, m_waitY_1, m_waitSide_1, m_waits_1, m_sign_1, m_signs_1, m_many_1) h rfl dX6_count_62
          · replace h := h.2 c_5
            by_cases c_6 : a1 = 5
            · replace h := h.1 c_6
              refine v_tin C 5 63 c_6 dX6_count_1 (by decide) rfl (by decide) ?_
              refine v_aload_n C dX6_count_63 rfl 0 rfl ?_
              refine v_callVi C (c_Md_allParts l G ad forms sizes items moved latest rows fresh oldMask oldRows known drawn label pile parts waitX waitY waitSide waits sign signs many h) 0 rfl rfl gX6_count_X6_allParts rfl kX6_allParts ⟨rfl, rfl⟩ ⟨Nat.le_of_ble_eq_true rfl, Nat.le_of_ble_eq_true rfl⟩ rfl (Nat.le_of_ble_eq_true rfl) dX6_count_64 (fun r_6 u h => ?_)
              obtain ⟨m_label_1, m_pile_1, m_parts_1⟩ := u
              try dsimp only at h
              refine v_world (ws' := mw G ad forms sizes items moved latest rows fresh oldMask oldRows known drawn m_label_1 m_pile_1 m_parts_1 waitX waitY waitSide waits sign signs many) rfl ?_
              exact hret _ _ _ r_6 (m_label_1, m_pile_1, m_parts_1, waitX, waitY, waitSide, waits, sign, signs, many) h rfl dX6_count_67
            · replace h := h.2 c_6
              by_cases c_7 : a1 = 6
              · replace h := h.1 c_7
                refine v_tin C 6 68 c_7 dX6_count_1 (by decide) rfl (by decide) ?_
                refine v_aload_n C dX6_count_68 rfl 0 rfl ?_
                refine v_get C iX6_count_6 0 rfl rfl 9 (by decide) mX6_count_w1 rfl rfl dX6_count_69 ?_
                exact hret _ _ _ known (label, pile, parts, waitX, waitY, waitSide, waits, sign, signs, many) h rfl dX6_count_72
              · replace h := h.2 c_7
                by_cases c_8 : a1 = 7
                · replace h := h.1 c_8
                  refine v_tin C 7 73 c_8 dX6_count_1 (by decide) rfl (by decide) ?_
                  refine v_aload_n C dX6_count_73 rfl 0 rfl ?_
                  refine v_callVi C (c_Md_inAll l G ad forms sizes items moved latest rows fresh oldMask oldRows known drawn label pile parts waitX waitY waitSide waits sign signs many h) 0 rfl rfl gX6_count_X6_inAll rfl kX6_inAll ⟨rfl, rfl⟩ ⟨Nat.le_of_ble_eq_true rfl, Nat.le_of_ble_eq_true rfl⟩ rfl (Nat.le_of_ble_eq_true rfl) dX6_count_74 (fun r_7 _ h => ?_)
                  try dsimp only at h
                  exact hret _ _ _ r_7 (label, pile, parts, waitX, waitY, waitSide, waits, sign, signs, many) h rfl dX6_count_77
                · replace h := h.2 c_8
                  by_cases c_9 : a1 = 8
                  · replace h := h.1 c_9
                    refine v_tin C 8 78 c_9 dX6_count_1 (by decide) rfl (by decide) ?_
                    refine v_aload_n C dX6_count_78 rfl 0 rfl ?_
                    refine v_get C iX6_count_6 0 rfl rfl 4 (by decide) mX6_count_w2 rfl rfl dX6_count_79 ?_
                    exact hret _ _ _ latest (label, pile, parts, waitX, waitY, waitSide, waits, sign, signs, many) h rfl dX6_count_82
                  · replace h := h.2 c_9
                    have n1_0 := lv_neT c_1 (a := 0) (by decide)
                    have n1_1 := lv_neT c_2 (a := 1) (by decide)
                    have n1_2 := lv_neT c_3 (a := 2) (by decide)
                    have n1_3 := lv_neT c_4 (a := 3) (by decide)
                    have n1_4 := lv_neT c_5 (a := 4) (by decide)
                    have n1_5 := lv_neT c_6 (a := 5) (by decide)
                    have n1_6 := lv_neT c_7 (a := 6) (by decide)
                    have n1_7 := lv_neT c_8 (a := 7) (by decide)
                    have n1_8 := lv_neT c_9 (a := 8) (by decide)
                    refine v_tout C 83 dX6_count_1 (by omega) (by decide) ?_
                    refine v_bipush C (-2) dX6_count_83 (by decide) ?_
                    exact hret _ _ _ (-2) (label, pile, parts, waitX, waitY, waitSide, waits, sign, signs, many) h rfl dX6_count_85
-- QuarterMasksModel.tellsMask
def rmX6_tellsMask : Room := { frames := 8, cells := 0, slots := 0, locals := 208 }
theorem kX6_tellsMask : yX6_tellsMask.cls = RX6 ∧ yX6_tellsMask.cls ≠ "java/lang/invoke/MethodHandle" ∧ yX6_tellsMask.cls ≠ "java/lang/invoke/VarHandle" ∧ (parseMethodDescriptor yX6_tellsMask.desc).map (fun d => d.parameters.length) = some 2 := by decide +kernel
theorem mX6_tellsMask_w1 : Cond.constantLong RX6 238 (31) ∈ wsX6_tellsMask := List.mem_of_getElem? (i := 1) rfl
theorem mX6_tellsMask_w2 : Cond.fieldLink RX6 34 "QuarterMasksModel" "label" "[I" ∈ wsX6_tellsMask := List.mem_of_getElem? (i := 2) rfl
theorem iX6_tellsMask_6 : ∀ w ∈ wsX60, w ∈ wsX6_tellsMask := fun w h => List.mem_cons_of_mem _ (List.mem_append_right _ h)
theorem mX6_tellsMask_w3 : Cond.fieldLink RX6 144 "QuarterMasksModel" "parts" "I" ∈ wsX6_tellsMask := List.mem_of_getElem? (i := 3) rfl
def wl_Md_tellsMask_299 (rows : IA) (a3 : Int32) (x6_11 : Int32) (Kx_1 : Int32 → Int64 → Prop) : Nat → Int32 → Int64 → Prop
  | 0, _, _ => False
  | n + 1, x7_1, x4_12 => (4 ≤ x7_1 → (Kx_1 x7_1 x4_12)) ∧ (¬ 4 ≤ x7_1 → (wp_Md_bothBy rows a3 x6_11 x7_1 (fun r_1 => ∀ x4_14 : Int64, x4_14 = ((31 * x4_12) + (Int32.toInt64 r_1)) → ((wl_Md_tellsMask_299 rows a3 x6_11 Kx_1 n) (x7_1 + 1) x4_14))))
def wl_Md_tellsMask_290 (rows : IA) (a3 : Int32) (Q : Int64 → IA → IA → Int32 → IA → IA → IA → Int32 → IA → Int32 → IA → Prop) (m_waitX_1 : IA) (m_waitY_1 : IA) (m_waitSide_1 : IA) (m_waits_1 : Int32) (m_sign_1 : IA) (m_signs_1 : Int32) (m_many_1 : IA) (m_label_1 : IA) (m_pile_1 : IA) (m_parts_1 : Int32) : Nat → Int32 → Int64 → Prop
  | 0, _, _ => False
  | n + 1, x6_11, x4_11 => (4 ≤ x6_11 → (Q x4_11 m_label_1 m_pile_1 m_parts_1 m_waitX_1 m_waitY_1 m_waitSide_1 m_waits_1 m_sign_1 m_signs_1 m_many_1)) ∧ (¬ 4 ≤ x6_11 → (∃ k_1 : Nat, wl_Md_tellsMask_299 rows a3 x6_11 (fun (x7_2 : Int32) (x4_13 : Int64) => (wl_Md_tellsMask_290 rows a3 Q m_waitX_1 m_waitY_1 m_waitSide_1 m_waits_1 m_sign_1 m_signs_1 m_many_1 m_label_1 m_pile_1 m_parts_1 n) (x6_11 + 1) x4_13) k_1 0 x4_11))
def wx_Md_tellsMask_287 (rows : IA) (a3 : Int32) (Q : Int64 → IA → IA → Int32 → IA → IA → IA → Int32 → IA → Int32 → IA → Prop) (m_waitX_1 : IA) (m_waitY_1 : IA) (m_waitSide_1 : IA) (m_waits_1 : Int32) (m_sign_1 : IA) (m_signs_1 : Int32) (m_many_1 : IA) (m_label_1 : IA) (m_pile_1 : IA) (m_parts_1 : Int32) (x6_10 : Int32) (x4_10 : Int64) : Prop :=
  ∃ k_2 : Nat, wl_Md_tellsMask_290 rows a3 Q m_waitX_1 m_waitY_1 m_waitSide_1 m_waits_1 m_sign_1 m_signs_1 m_many_1 m_label_1 m_pile_1 m_parts_1 k_2 0 x4_10
def wj_Md_tellsMask_271 (x7_3 : Int32) (x4_15 : Int64) (Kh_4 : Int32 → Int64 → Prop) (t_1 : Int32) : Prop :=
  ∀ x4_17 : Int64, x4_17 = ((31 * x4_15) + (Int32.toInt64 t_1)) → (Kh_4 (x7_3 + 1) x4_17)
def wl_Md_tellsMask_235 (rows : IA) (a3 : Int32) (m_label_1 : IA) (m_parts_1 : Int32) (x6_9 : Int32) (Kx_3 : Int32 → Int64 → Prop) : Nat → Int32 → Int64 → Prop
  | 0, _, _ => False
  | n + 1, x7_3, x4_15 => (6 ≤ x7_3 → (Kx_3 x7_3 x4_15)) ∧ (¬ 6 ≤ x7_3 → (jn (wj_Md_tellsMask_271 x7_3 x4_15 (wl_Md_tellsMask_235 rows a3 m_label_1 m_parts_1 x6_9 Kx_3 n)) (fun K_1 : Int32 → Prop => (m_parts_1 ≤ x6_9 → (K_1 (-2))) ∧ (¬ m_parts_1 ≤ x6_9 → (wp_Md_partBy rows m_label_1 a3 x6_9 x7_3 (fun r_2 => K_1 r_2))))))
def wl_Md_tellsMask_226 (rows : IA) (a3 : Int32) (m_label_1 : IA) (m_parts_1 : Int32) (Kx_2 : Int32 → Int64 → Prop) : Nat → Int32 → Int64 → Prop
  | 0, _, _ => False
  | n + 1, x6_9, x4_9 => (4 ≤ x6_9 → (Kx_2 x6_9 x4_9)) ∧ (¬ 4 ≤ x6_9 → (∃ k_3 : Nat, wl_Md_tellsMask_235 rows a3 m_label_1 m_parts_1 x6_9 (fun (x7_4 : Int32) (x4_16 : Int64) => (wl_Md_tellsMask_226 rows a3 m_label_1 m_parts_1 Kx_2 n) (x6_9 + 1) x4_16) k_3 0 x4_9))
def wx_Md_tellsMask_223 (rows : IA) (a3 : Int32) (Q : Int64 → IA → IA → Int32 → IA → IA → IA → Int32 → IA → Int32 → IA → Prop) (m_waitX_1 : IA) (m_waitY_1 : IA) (m_waitSide_1 : IA) (m_waits_1 : Int32) (m_sign_1 : IA) (m_signs_1 : Int32) (m_many_1 : IA) (m_label_1 : IA) (m_pile_1 : IA) (m_parts_1 : Int32) (x6_8 : Int32) (x4_8 : Int64) : Prop :=
  ∃ k_4 : Nat, wl_Md_tellsMask_226 rows a3 m_label_1 m_parts_1 (wx_Md_tellsMask_287 rows a3 Q m_waitX_1 m_waitY_1 m_waitSide_1 m_waits_1 m_sign_1 m_signs_1 m_many_1 m_label_1 m_pile_1 m_parts_1) k_4 0 x4_8
def wl_Md_tellsMask_123 (rows : IA) (a3 : Int32) (m_label_1 : IA) (x6_7 : Int32) (Kx_5 : Int32 → Int64 → Prop) : Nat → Int32 → Int64 → Prop
  | 0, _, _ => False
  | n + 1, x7_5, x4_18 => (16 ≤ x7_5 → (Kx_5 x7_5 x4_18)) ∧ (¬ 16 ≤ x7_5 → (wp_Md_dark rows a3 x7_5 x6_7 (fun r_3 => ∀ x4_20 : Int64, x4_20 = ((31 * x4_18) + (Int32.toInt64 r_3)) → (wp_Md_blockBy rows a3 x7_5 x6_7 2 (fun r_4 => ∀ x4_21 : Int64, x4_21 = ((31 * x4_20) + (Int32.toInt64 r_4)) → (vp_in ((16 * x6_7) + x7_5) 256 ∧ (∀ x4_22 : Int64, x4_22 = ((31 * x4_21) + (Int32.toInt64 (m_label_1 ((16 * x6_7) + x7_5).toNatClampNeg))) → (wp_Md_nearOf rows a3 x7_5 x6_7 (fun r_5 => ∀ x4_23 : Int64, x4_23 = ((31 * x4_22) + (Int32.toInt64 r_5)) → ((wl_Md_tellsMask_123 rows a3 m_label_1 x6_7 Kx_5 n) (x7_5 + 5) x4_23))))))))))
def wl_Md_tellsMask_113 (rows : IA) (a3 : Int32) (m_label_1 : IA) (Kx_4 : Int32 → Int64 → Prop) : Nat → Int32 → Int64 → Prop
  | 0, _, _ => False
  | n + 1, x6_7, x4_7 => (16 ≤ x6_7 → (Kx_4 x6_7 x4_7)) ∧ (¬ 16 ≤ x6_7 → (∃ k_5 : Nat, wl_Md_tellsMask_123 rows a3 m_label_1 x6_7 (fun (x7_6 : Int32) (x4_19 : Int64) => (wl_Md_tellsMask_113 rows a3 m_label_1 Kx_4 n) (x6_7 + 3) x4_19) k_5 0 x4_7))
def wx_Md_tellsMask_104 (rows : IA) (a3 : Int32) (Q : Int64 → IA → IA → Int32 → IA → IA → IA → Int32 → IA → Int32 → IA → Prop) (label_2 : IA) (pile_2 : IA) (m_waitX_1 : IA) (m_waitY_1 : IA) (m_waitSide_1 : IA) (m_waits_1 : Int32) (m_sign_1 : IA) (m_signs_1 : Int32) (m_many_1 : IA) (x6_6 : Int32) (x4_6 : Int64) : Prop :=
  wp_Md_labels rows label_2 pile_2 a3 1 (fun m_label_1 m_pile_1 m_parts_1 => ∃ k_6 : Nat, wl_Md_tellsMask_113 rows a3 m_label_1 (wx_Md_tellsMask_223 rows a3 Q m_waitX_1 m_waitY_1 m_waitSide_1 m_waits_1 m_sign_1 m_signs_1 m_many_1 m_label_1 m_pile_1 m_parts_1) k_6 0 x4_6)
def wl_Md_tellsMask_75 (m_sign_1 : IA) (m_signs_1 : Int32) (Kx_6 : Int32 → Int64 → Prop) : Nat → Int32 → Int64 → Prop
  | 0, _, _ => False
  | n + 1, x6_5, x4_5 => (41 ≤ x6_5 → (Kx_6 x6_5 x4_5)) ∧ (¬ 41 ≤ x6_5 → (wp_Md_signBy m_sign_1 m_signs_1 x6_5 (fun r_6 => ∀ x4_24 : Int64, x4_24 = ((31 * x4_5) + (Int32.toInt64 r_6)) → ((wl_Md_tellsMask_75 m_sign_1 m_signs_1 Kx_6 n) (x6_5 + 1) x4_24))))
def wx_Md_tellsMask_67 (rows : IA) (a3 : Int32) (Q : Int64 → IA → IA → Int32 → IA → IA → IA → Int32 → IA → Int32 → IA → Prop) (waitX_2 : IA) (waitY_2 : IA) (waitSide_2 : IA) (sign_2 : IA) (many_2 : IA) (x6_4 : Int32) (x4_4 : Int64) (label_2 : IA) (pile_2 : IA) (parts_2 : Int32) : Prop :=
  wp_Md_shows rows waitX_2 waitY_2 waitSide_2 sign_2 many_2 a3 (fun m_waitX_1 m_waitY_1 m_waitSide_1 m_waits_1 m_sign_1 m_signs_1 m_many_1 => ∃ k_7 : Nat, wl_Md_tellsMask_75 m_sign_1 m_signs_1 (wx_Md_tellsMask_104 rows a3 Q label_2 pile_2 m_waitX_1 m_waitY_1 m_waitSide_1 m_waits_1 m_sign_1 m_signs_1 m_many_1) k_7 (-1) x4_4)
def wl_Md_tellsMask_38 (rows : IA) (a3 : Int32) (Kx_7 : Int32 → Int64 → IA → IA → Int32 → Prop) : Nat → Int32 → Int64 → IA → IA → Int32 → Prop
  | 0, _, _, _, _, _ => False
  | n + 1, x6_3, x4_3, label_1, pile_1, parts_1 => (4 ≤ x6_3 → (Kx_7 x6_3 x4_3 label_1 pile_1 parts_1)) ∧ (¬ 4 ≤ x6_3 → (wp_Md_allBy rows label_1 pile_1 parts_1 a3 x6_3 (fun r_7 m_label_2 m_pile_2 m_parts_2 => ∀ x4_25 : Int64, x4_25 = ((31 * x4_3) + (Int32.toInt64 r_7)) → ((wl_Md_tellsMask_38 rows a3 Kx_7 n) (x6_3 + 1) x4_25 m_label_2 m_pile_2 m_parts_2))))
def wx_Md_tellsMask_35 (rows : IA) (label : IA) (pile : IA) (parts : Int32) (a3 : Int32) (Q : Int64 → IA → IA → Int32 → IA → IA → IA → Int32 → IA → Int32 → IA → Prop) (x6_2 : Int32) (x4_2 : Int64) (waitX_2 : IA) (waitY_2 : IA) (waitSide_2 : IA) (waits_2 : Int32) (sign_2 : IA) (signs_2 : Int32) (many_2 : IA) : Prop :=
  ∃ k_8 : Nat, wl_Md_tellsMask_38 rows a3 (wx_Md_tellsMask_67 rows a3 Q waitX_2 waitY_2 waitSide_2 sign_2 many_2) k_8 0 x4_2 label pile parts
def wl_Md_tellsMask_6 (rows : IA) (a3 : Int32) (Kx_8 : Int32 → Int64 → IA → IA → IA → Int32 → IA → Int32 → IA → Prop) : Nat → Int32 → Int64 → IA → IA → IA → Int32 → IA → Int32 → IA → Prop
  | 0, _, _, _, _, _, _, _, _, _ => False
  | n + 1, x6_1, x4_1, waitX_1, waitY_1, waitSide_1, waits_1, sign_1, signs_1, many_1 => (4 ≤ x6_1 → (Kx_8 x6_1 x4_1 waitX_1 waitY_1 waitSide_1 waits_1 sign_1 signs_1 many_1)) ∧ (¬ 4 ≤ x6_1 → (wp_Md_blocksBy rows waitX_1 waitY_1 waitSide_1 sign_1 many_1 a3 x6_1 (fun r_8 m_waitX_2 m_waitY_2 m_waitSide_2 m_waits_2 m_sign_2 m_signs_2 m_many_2 => ∀ x4_26 : Int64, x4_26 = ((31 * x4_1) + (Int32.toInt64 r_8)) → ((wl_Md_tellsMask_6 rows a3 Kx_8 n) (x6_1 + 1) x4_26 m_waitX_2 m_waitY_2 m_waitSide_2 m_waits_2 m_sign_2 m_signs_2 m_many_2))))
def wp_Md_tellsMask (rows : IA) (label : IA) (pile : IA) (parts : Int32) (waitX : IA) (waitY : IA) (waitSide : IA) (waits : Int32) (sign : IA) (signs : Int32) (many : IA) (a1 : Int64) (a3 : Int32) (Q : Int64 → IA → IA → Int32 → IA → IA → IA → Int32 → IA → Int32 → IA → Prop) : Prop :=
  ∃ k_9 : Nat, wl_Md_tellsMask_6 rows a3 (wx_Md_tellsMask_35 rows label pile parts a3 Q) k_9 0 a1 waitX waitY waitSide waits sign signs many
set_option maxHeartbeats 4000000 in
theorem c_Md_tellsMask (l : Launch) (G : GG) (ad : Nat → Nat) (forms : IA) (sizes : IA) (items : IA) (moved : IA) (latest : Int32) (rows : IA) (fresh : IA) (oldMask : IA) (oldRows : IA) (known : Int32) (drawn : Int32) (label : IA) (pile : IA) (parts : Int32) (waitX : IA) (waitY : IA) (waitSide : IA) (waits : Int32) (sign : IA) (signs : Int32) (many : IA) (a1 : Int64) (a3 : Int32) {Q : Int64 → IA → IA → Int32 → IA → IA → IA → Int32 → IA → Int32 → IA → Prop} (h : wp_Md_tellsMask rows label pile parts waitX waitY waitSide waits sign signs many a1 a3 Q) : qm_ML l yX6_tellsMask wsX6_tellsMask rmX6_tellsMask G [.ref (ad 0), .long a1, .int a3] (mw G ad forms sizes items moved latest rows fresh oldMask oldRows known drawn label pile parts waitX waitY waitSide waits sign signs many) (fun (r : Int64) (u : IA × IA × Int32 × IA × IA × IA × Int32 × IA × Int32 × IA) => Q r u.1 u.2.1 u.2.2.1 u.2.2.2.1 u.2.2.2.2.1 u.2.2.2.2.2.1 u.2.2.2.2.2.2.1 u.2.2.2.2.2.2.2.1 u.2.2.2.2.2.2.2.2.1 u.2.2.2.2.2.2.2.2.2) (fun (u : IA × IA × Int32 × IA × IA × IA × Int32 × IA × Int32 × IA) => mw G ad forms sizes items moved latest rows fresh oldMask oldRows known drawn u.1 u.2.1 u.2.2.1 u.2.2.2.1 u.2.2.2.2.1 u.2.2.2.2.2.1 u.2.2.2.2.2.2.1 u.2.2.2.2.2.2.2.1 u.2.2.2.2.2.2.2.2.1 u.2.2.2.2.2.2.2.2.2) := by
  refine qm_mkL (cc := cX6_tellsMask) (maxL := 8) (by decide) rfl (Nat.le_of_ble_eq_true rfl) ?_
  intro X C hret
  replace C : qm_C G 8 X cX6_tellsMask wsX6_tellsMask RX6 := C
  refine v_lv (lv' := [(0, .ref (ad 0)), (1, .long a1), (3, .int a3)]) rfl ?_
  unfold wp_Md_tellsMask at h
  refine v_lload_n C dX6_tellsMask_0 rfl 1 rfl ?_
  refine v_lstore C [(4, .long a1), (0, .ref (ad 0)), (1, .long a1), (3, .int a3)] dX6_tellsMask_1 (by decide) rfl ?_
  refine v_iconst C 0 dX6_tellsMask_3 (by decide) ?_
  refine v_istore C [(6, .int 0), (4, .long a1), (0, .ref (ad 0)), (1, .long a1), (3, .int a3)] dX6_tellsMask_4 (by decide) rfl ?_
  have hx_8 : ∀ (x6_2 : Int32) (x4_2 : Int64) (waitX_2 : IA) (waitY_2 : IA) (waitSide_2 : IA) (waits_2 : Int32) (sign_2 : IA) (signs_2 : Int32) (many_2 : IA), (wx_Md_tellsMask_35 rows label pile parts a3 Q) x6_2 x4_2 waitX_2 waitY_2 waitSide_2 waits_2 sign_2 signs_2 many_2 → qm_V l G rmX6_tellsMask 8 X (mw G ad forms sizes items moved latest rows fresh oldMask oldRows known drawn label pile parts waitX_2 waitY_2 waitSide_2 waits_2 sign_2 signs_2 many_2) [(6, .int x6_2), (4, .long x4_2), (0, .ref (ad 0)), (1, .long a1), (3, .int a3)] 35 [] := by
    intro x6_2 x4_2 waitX_2 waitY_2 waitSide_2 waits_2 sign_2 signs_2 many_2 h
    unfold wx_Md_tellsMask_35 at h
    refine v_iconst C 0 dX6_tellsMask_35 (by decide) ?_
    refine v_istore C [(6, .int 0), (4, .long x4_2), (0, .ref (ad 0)), (1, .long a1), (3, .int a3)] dX6_tellsMask_36 (by decide) rfl ?_
    have hx_7 : ∀ (x6_4 : Int32) (x4_4 : Int64) (label_2 : IA) (pile_2 : IA) (parts_2 : Int32), (wx_Md_tellsMask_67 rows a3 Q waitX_2 waitY_2 waitSide_2 sign_2 many_2) x6_4 x4_4 label_2 pile_2 parts_2 → qm_V l G rmX6_tellsMask 8 X (mw G ad forms sizes items moved latest rows fresh oldMask oldRows known drawn label_2 pile_2 parts_2 waitX_2 waitY_2 waitSide_2 waits_2 sign_2 signs_2 many_2) [(6, .int x6_4), (4, .long x4_4), (0, .ref (ad 0)), (1, .long a1), (3, .int a3)] 67 [] := by
      intro x6_4 x4_4 label_2 pile_2 parts_2 h
      unfold wx_Md_tellsMask_67 at h
      refine v_aload_n C dX6_tellsMask_67 rfl 2 rfl ?_
      refine v_iload_n C dX6_tellsMask_68 rfl 4 rfl ?_
      refine v_callVv C (c_Md_shows l G ad forms sizes items moved latest rows fresh oldMask oldRows known drawn label_2 pile_2 parts_2 waitX_2 waitY_2 waitSide_2 waits_2 sign_2 signs_2 many_2 a3 h) 0 rfl rfl gX6_tellsMask_X6_shows rfl kX6_shows ⟨rfl, rfl⟩ ⟨Nat.le_of_ble_eq_true rfl, Nat.le_of_ble_eq_true rfl⟩ rfl (Nat.le_of_ble_eq_true rfl) dX6_tellsMask_69 (fun u h => ?_)
      obtain ⟨m_waitX_1, m_waitY_1, m_waitSide_1, m_waits_1, m_sign_1, m_signs_1, m_many_1⟩ := u
      try dsimp only at h
      refine v_world (ws' := mw G ad forms sizes items moved latest rows fresh oldMask oldRows known drawn label_2 pile_2 parts_2 m_waitX_1 m_waitY_1 m_waitSide_1 m_waits_1 m_sign_1 m_signs_1 m_many_1) rfl ?_
      refine v_iconst C (-1) dX6_tellsMask_72 (by decide) ?_
      refine v_istore C [(6, .int (-1)), (4, .long x4_4), (0, .ref (ad 0)), (1, .long a1), (3, .int a3)] dX6_tellsMask_73 (by decide) rfl ?_
      have hx_6 : ∀ (x6_6 : Int32) (x4_6 : Int64), (wx_Md_tellsMask_104 rows a3 Q label_2 pile_2 m_waitX_1 m_waitY_1 m_waitSide_1 m_waits_1 m_sign_1 m_signs_1 m_many_1) x6_6 x4_6 → qm_V l G rmX6_tellsMask 8 X (mw G ad forms sizes items moved latest rows fresh oldMask oldRows known drawn label_2 pile_2 parts_2 m_waitX_1 m_waitY_1 m_waitSide_1 m_waits_1 m_sign_1 m_signs_1 m_many_1) [(6, .int x6_6), (4, .long x4_6), (0, .ref (ad 0)), (1, .long a1), (3, .int a3)] 104 [] := by
        intro x6_6 x4_6 h
        unfold wx_Md_tellsMask_104 at h
        refine v_aload_n C dX6_tellsMask_104 rfl 2 rfl ?_
        refine v_iload_n C dX6_tellsMask_105 rfl 4 rfl ?_
        refine v_iconst C 1 dX6_tellsMask_106 (by decide) ?_
        refine v_callVv C (c_Md_labels l G ad forms sizes items moved latest rows fresh oldMask oldRows known drawn label_2 pile_2 parts_2 m_waitX_1 m_waitY_1 m_waitSide_1 m_waits_1 m_sign_1 m_signs_1 m_many_1 a3 1 h) 0 rfl rfl gX6_tellsMask_X6_labels rfl kX6_labels ⟨rfl, rfl⟩ ⟨Nat.le_of_ble_eq_true rfl, Nat.le_of_ble_eq_true rfl⟩ rfl (Nat.le_of_ble_eq_true rfl) dX6_tellsMask_107 (fun u h => ?_)
        obtain ⟨m_label_1, m_pile_1, m_parts_1⟩ := u
        try dsimp only at h
        refine v_world (ws' := mw G ad forms sizes items moved latest rows fresh oldMask oldRows known drawn m_label_1 m_pile_1 m_parts_1 m_waitX_1 m_waitY_1 m_waitSide_1 m_waits_1 m_sign_1 m_signs_1 m_many_1) rfl ?_
        refine v_iconst C 0 dX6_tellsMask_110 (by decide) ?_
        refine v_istore C [(6, .int 0), (4, .long x4_6), (0, .ref (ad 0)), (1, .long a1), (3, .int a3)] dX6_tellsMask_111 (by decide) rfl ?_
        have hx_4 : ∀ (x6_8 : Int32) (x4_8 : Int64), (wx_Md_tellsMask_223 rows a3 Q m_waitX_1 m_waitY_1 m_waitSide_1 m_waits_1 m_sign_1 m_signs_1 m_many_1 m_label_1 m_pile_1 m_parts_1) x6_8 x4_8 → qm_V l G rmX6_tellsMask 8 X (mw G ad forms sizes items moved latest rows fresh oldMask oldRows known drawn m_label_1 m_pile_1 m_parts_1 m_waitX_1 m_waitY_1 m_waitSide_1 m_waits_1 m_sign_1 m_signs_1 m_many_1) [(6, .int x6_8), (4, .long x4_8), (0, .ref (ad 0)), (1, .long a1), (3, .int a3)] 223 [] := by
          intro x6_8 x4_8 h
          unfold wx_Md_tellsMask_223 at h
          refine v_iconst C 0 dX6_tellsMask_223 (by decide) ?_
          refine v_istore C [(6, .int 0), (4, .long x4_8), (0, .ref (ad 0)), (1, .long a1), (3, .int a3)] dX6_tellsMask_224 (by decide) rfl ?_
          have hx_2 : ∀ (x6_10 : Int32) (x4_10 : Int64), (wx_Md_tellsMask_287 rows a3 Q m_waitX_1 m_waitY_1 m_waitSide_1 m_waits_1 m_sign_1 m_signs_1 m_many_1 m_label_1 m_pile_1 m_parts_1) x6_10 x4_10 → qm_V l G rmX6_tellsMask 8 X (mw G ad forms sizes items moved latest rows fresh oldMask oldRows known drawn m_label_1 m_pile_1 m_parts_1 m_waitX_1 m_waitY_1 m_waitSide_1 m_waits_1 m_sign_1 m_signs_1 m_many_1) [(6, .int x6_10), (4, .long x4_10), (0, .ref (ad 0)), (1, .long a1), (3, .int a3)] 287 [] := by
            intro x6_10 x4_10 h
            unfold wx_Md_tellsMask_287 at h
            refine v_iconst C 0 dX6_tellsMask_287 (by decide) ?_
            refine v_istore C [(6, .int 0), (4, .long x4_10), (0, .ref (ad 0)), (1, .long a1), (3, .int a3)] dX6_tellsMask_288 (by decide) rfl ?_
            have hl_2 : ∀ n_1 : Nat, ∀ (x6_11 : Int32) (x4_11 : Int64), wl_Md_tellsMask_290 rows a3 Q m_waitX_1 m_waitY_1 m_waitSide_1 m_waits_1 m_sign_1 m_signs_1 m_many_1 m_label_1 m_pile_1 m_parts_1 n_1 x6_11 x4_11 → qm_V l G rmX6_tellsMask 8 X (mw G ad forms sizes items moved latest rows fresh oldMask oldRows known drawn m_label_1 m_pile_1 m_parts_1 m_waitX_1 m_waitY_1 m_waitSide_1 m_waits_1 m_sign_1 m_signs_1 m_many_1) [(6, .int x6_11), (4, .long x4_11), (0, .ref (ad 0)), (1, .long a1), (3, .int a3)] 290 [] := by
              intro n_1
              induction n_1 with
              | zero =>
                intro x6_11 x4_11 h
                exact False.elim h
              | succ n_1 ih_1 =>
                intro x6_11 x4_11 h
                rw [wl_Md_tellsMask_290] at h
                refine v_iload C dX6_tellsMask_290 0 rfl ?_
                refine v_iconst C 4 dX6_tellsMask_292 (by decide) ?_
                refine v_icmp_ge C 336 dX6_tellsMask_293 (by decide) (fun c_2 => ?_) (fun c_2 => ?_)
                · replace h := h.1 c_2
                  refine v_lload C dX6_tellsMask_336 1 rfl ?_
                  exact hret _ _ _ x4_11 (m_label_1, m_pile_1, m_parts_1, m_waitX_1, m_waitY_1, m_waitSide_1, m_waits_1, m_sign_1, m_signs_1, m_many_1) h rfl dX6_tellsMask_338
                · replace h := h.2 c_2
                  refine v_iconst C 0 dX6_tellsMask_296 (by decide) ?_
                  refine v_istore C [(7, .int 0), (6, .int x6_11), (4, .long x4_11), (0, .ref (ad 0)), (1, .long a1), (3, .int a3)] dX6_tellsMask_297 (by decide) rfl ?_
                  have hx_1 : ∀ (x7_2 : Int32) (x4_13 : Int64), (fun (x7_2 : Int32) (x4_13 : Int64) => (wl_Md_tellsMask_290 rows a3 Q m_waitX_1 m_waitY_1 m_waitSide_1 m_waits_1 m_sign_1 m_signs_1 m_many_1 m_label_1 m_pile_1 m_parts_1 n_1) (x6_11 + 1) x4_13) x7_2 x4_13 → qm_V l G rmX6_tellsMask 8 X (mw G ad forms sizes items moved latest rows fresh oldMask oldRows known drawn m_label_1 m_pile_1 m_parts_1 m_waitX_1 m_waitY_1 m_waitSide_1 m_waits_1 m_sign_1 m_signs_1 m_many_1) [(7, .int x7_2), (6, .int x6_11), (4, .long x4_13), (0, .ref (ad 0)), (1, .long a1), (3, .int a3)] 330 [] := by
                    intro x7_2 x4_13 h
                    try dsimp only at h
                    refine v_iinc C (x6_11 + 1) 1 [(6, .int (x6_11 + 1)), (7, .int x7_2), (4, .long x4_13), (0, .ref (ad 0)), (1, .long a1), (3, .int a3)] dX6_tellsMask_330 rfl rfl (by decide) rfl ?_
                    refine v_goto C 290 dX6_tellsMask_333 (by decide) ?_
                    refine v_perm [0, 2, 3, 4, 5] rfl ?_
                    exact ih_1 (x6_11 + 1) x4_13 h
                  have hl_1 : ∀ n_2 : Nat, ∀ (x7_1 : Int32) (x4_12 : Int64), wl_Md_tellsMask_299 rows a3 x6_11 (fun (x7_2 : Int32) (x4_13 : Int64) => (wl_Md_tellsMask_290 rows a3 Q m_waitX_1 m_waitY_1 m_waitSide_1 m_waits_1 m_sign_1 m_signs_1 m_many_1 m_label_1 m_pile_1 m_parts_1 n_1) (x6_11 + 1) x4_13) n_2 x7_1 x4_12 → qm_V l G rmX6_tellsMask 8 X (mw G ad forms sizes items moved latest rows fresh oldMask oldRows known drawn m_label_1 m_pile_1 m_parts_1 m_waitX_1 m_waitY_1 m_waitSide_1 m_waits_1 m_sign_1 m_signs_1 m_many_1) [(7, .int x7_1), (6, .int x6_11), (4, .long x4_12), (0, .ref (ad 0)), (1, .long a1), (3, .int a3)] 299 [] := by
                    intro n_2
                    induction n_2 with
                    | zero =>
                      intro x7_1 x4_12 h
                      exact False.elim h
                    | succ n_2 ih_2 =>
                      intro x7_1 x4_12 h
                      rw [wl_Md_tellsMask_299] at h
                      refine v_iload C dX6_tellsMask_299 0 rfl ?_
                      refine v_iconst C 4 dX6_tellsMask_301 (by decide) ?_
                      refine v_icmp_ge C 330 dX6_tellsMask_302 (by decide) (fun c_1 => ?_) (fun c_1 => ?_)
                      · replace h := h.1 c_1
                        exact hx_1 x7_1 x4_12 h
                      · replace h := h.2 c_1
                        refine v_ldc2 C 31 mX6_tellsMask_w1 dX6_tellsMask_305 ?_
                        refine v_lload C dX6_tellsMask_308 2 rfl ?_
                        refine v_lmul C dX6_tellsMask_310 ?_
                        refine v_aload_n C dX6_tellsMask_311 rfl 3 rfl ?_
                        refine v_iload_n C dX6_tellsMask_312 rfl 5 rfl ?_
                        refine v_iload C dX6_tellsMask_313 1 rfl ?_
                        refine v_iload C dX6_tellsMask_315 0 rfl ?_
                        refine v_callVi C (c_Md_bothBy l G ad forms sizes items moved latest rows fresh oldMask oldRows known drawn m_label_1 m_pile_1 m_parts_1 m_waitX_1 m_waitY_1 m_waitSide_1 m_waits_1 m_sign_1 m_signs_1 m_many_1 a3 x6_11 x7_1 h) 0 rfl rfl gX6_tellsMask_X6_bothBy rfl kX6_bothBy ⟨rfl, rfl⟩ ⟨Nat.le_of_ble_eq_true rfl, Nat.le_of_ble_eq_true rfl⟩ rfl (Nat.le_of_ble_eq_true rfl) dX6_tellsMask_317 (fun r_1 _ h => ?_)
                        try dsimp only at h
                        refine v_i2l C dX6_tellsMask_320 ?_
                        refine v_ladd C dX6_tellsMask_321 ?_
                        refine v_topl (fun x4_14 ex4_14 => ?_)
                        replace h := h x4_14 ex4_14
                        refine v_lstore C [(4, .long x4_14), (7, .int x7_1), (6, .int x6_11), (0, .ref (ad 0)), (1, .long a1), (3, .int a3)] dX6_tellsMask_322 (by decide) rfl ?_
                        refine v_iinc C (x7_1 + 1) 1 [(7, .int (x7_1 + 1)), (4, .long x4_14), (6, .int x6_11), (0, .ref (ad 0)), (1, .long a1), (3, .int a3)] dX6_tellsMask_324 rfl rfl (by decide) rfl ?_
                        refine v_goto C 299 dX6_tellsMask_327 (by decide) ?_
                        refine v_perm [0, 2, 1, 3, 4, 5] rfl ?_
                        exact ih_2 (x7_1 + 1) x4_14 h
                  obtain ⟨k_1, h⟩ := h
                  exact hl_1 k_1 0 x4_11 h
            obtain ⟨k_2, h⟩ := h
            exact hl_2 k_2 0 x4_10 h
          have hl_4 : ∀ n_3 : Nat, ∀ (x6_9 : Int32) (x4_9 : Int64), wl_Md_tellsMask_226 rows a3 m_label_1 m_parts_1 (wx_Md_tellsMask_287 rows a3 Q m_waitX_1 m_waitY_1 m_waitSide_1 m_waits_1 m_sign_1 m_signs_1 m_many_1 m_label_1 m_pile_1 m_parts_1) n_3 x6_9 x4_9 → qm_V l G rmX6_tellsMask 8 X (mw G ad forms sizes items moved latest rows fresh oldMask oldRows known drawn m_label_1 m_pile_1 m_parts_1 m_waitX_1 m_waitY_1 m_waitSide_1 m_waits_1 m_sign_1 m_signs_1 m_many_1) [(6, .int x6_9), (4, .long x4_9), (0, .ref (ad 0)), (1, .long a1), (3, .int a3)] 226 [] := by
            intro n_3
            induction n_3 with
            | zero =>
              intro x6_9 x4_9 h
              exact False.elim h
            | succ n_3 ih_3 =>
              intro x6_9 x4_9 h
              rw [wl_Md_tellsMask_226] at h
              refine v_iload C dX6_tellsMask_226 0 rfl ?_
              refine v_iconst C 4 dX6_tellsMask_228 (by decide) ?_
              refine v_icmp_ge C 287 dX6_tellsMask_229 (by decide) (fun c_5 => ?_) (fun c_5 => ?_)
              · replace h := h.1 c_5
                exact hx_2 x6_9 x4_9 h
              · replace h := h.2 c_5
                refine v_iconst C 0 dX6_tellsMask_232 (by decide) ?_
                refine v_istore C [(7, .int 0), (6, .int x6_9), (4, .long x4_9), (0, .ref (ad 0)), (1, .long a1), (3, .int a3)] dX6_tellsMask_233 (by decide) rfl ?_
                have hx_3 : ∀ (x7_4 : Int32) (x4_16 : Int64), (fun (x7_4 : Int32) (x4_16 : Int64) => (wl_Md_tellsMask_226 rows a3 m_label_1 m_parts_1 (wx_Md_tellsMask_287 rows a3 Q m_waitX_1 m_waitY_1 m_waitSide_1 m_waits_1 m_sign_1 m_signs_1 m_many_1 m_label_1 m_pile_1 m_parts_1) n_3) (x6_9 + 1) x4_16) x7_4 x4_16 → qm_V l G rmX6_tellsMask 8 X (mw G ad forms sizes items moved latest rows fresh oldMask oldRows known drawn m_label_1 m_pile_1 m_parts_1 m_waitX_1 m_waitY_1 m_waitSide_1 m_waits_1 m_sign_1 m_signs_1 m_many_1) [(7, .int x7_4), (6, .int x6_9), (4, .long x4_16), (0, .ref (ad 0)), (1, .long a1), (3, .int a3)] 281 [] := by
                  intro x7_4 x4_16 h
                  try dsimp only at h
                  refine v_iinc C (x6_9 + 1) 1 [(6, .int (x6_9 + 1)), (7, .int x7_4), (4, .long x4_16), (0, .ref (ad 0)), (1, .long a1), (3, .int a3)] dX6_tellsMask_281 rfl rfl (by decide) rfl ?_
                  refine v_goto C 226 dX6_tellsMask_284 (by decide) ?_
                  refine v_perm [0, 2, 3, 4, 5] rfl ?_
                  exact ih_3 (x6_9 + 1) x4_16 h
                have hl_3 : ∀ n_4 : Nat, ∀ (x7_3 : Int32) (x4_15 : Int64), wl_Md_tellsMask_235 rows a3 m_label_1 m_parts_1 x6_9 (fun (x7_4 : Int32) (x4_16 : Int64) => (wl_Md_tellsMask_226 rows a3 m_label_1 m_parts_1 (wx_Md_tellsMask_287 rows a3 Q m_waitX_1 m_waitY_1 m_waitSide_1 m_waits_1 m_sign_1 m_signs_1 m_many_1 m_label_1 m_pile_1 m_parts_1) n_3) (x6_9 + 1) x4_16) n_4 x7_3 x4_15 → qm_V l G rmX6_tellsMask 8 X (mw G ad forms sizes items moved latest rows fresh oldMask oldRows known drawn m_label_1 m_pile_1 m_parts_1 m_waitX_1 m_waitY_1 m_waitSide_1 m_waits_1 m_sign_1 m_signs_1 m_many_1) [(7, .int x7_3), (6, .int x6_9), (4, .long x4_15), (0, .ref (ad 0)), (1, .long a1), (3, .int a3)] 235 [] := by
                  intro n_4
                  induction n_4 with
                  | zero =>
                    intro x7_3 x4_15 h
                    exact False.elim h
                  | succ n_4 ih_4 =>
                    intro x7_3 x4_15 h
                    rw [wl_Md_tellsMask_235] at h
                    refine v_iload C dX6_tellsMask_235 0 rfl ?_
                    refine v_bipush C 6 dX6_tellsMask_237 (by decide) ?_
                    refine v_icmp_ge C 281 dX6_tellsMask_239 (by decide) (fun c_4 => ?_) (fun c_4 => ?_)
                    · replace h := h.1 c_4
                      exact hx_3 x7_3 x4_15 h
                    · replace h := h.2 c_4
                      refine v_ldc2 C 31 mX6_tellsMask_w1 dX6_tellsMask_242 ?_
                      refine v_lload C dX6_tellsMask_245 2 rfl ?_
                      refine v_lmul C dX6_tellsMask_247 ?_
                      refine v_iload C dX6_tellsMask_248 1 rfl ?_
                      refine v_aload_n C dX6_tellsMask_250 rfl 3 rfl ?_
                      refine v_get C iX6_tellsMask_6 0 rfl rfl 13 (by decide) mX6_tellsMask_w3 rfl rfl dX6_tellsMask_251 ?_
                      have hJ_1 : ∀ (t_1 : Int32), (wj_Md_tellsMask_271 x7_3 x4_15 (wl_Md_tellsMask_235 rows a3 m_label_1 m_parts_1 x6_9 (fun (x7_4 : Int32) (x4_16 : Int64) => (wl_Md_tellsMask_226 rows a3 m_label_1 m_parts_1 (wx_Md_tellsMask_287 rows a3 Q m_waitX_1 m_waitY_1 m_waitSide_1 m_waits_1 m_sign_1 m_signs_1 m_many_1 m_label_1 m_pile_1 m_parts_1) n_3) (x6_9 + 1) x4_16) n_4)) t_1 → qm_V l G rmX6_tellsMask 8 X (mw G ad forms sizes items moved latest rows fresh oldMask oldRows known drawn m_label_1 m_pile_1 m_parts_1 m_waitX_1 m_waitY_1 m_waitSide_1 m_waits_1 m_sign_1 m_signs_1 m_many_1) [(7, .int x7_3), (6, .int x6_9), (4, .long x4_15), (0, .ref (ad 0)), (1, .long a1), (3, .int a3)] 271 [.int t_1, .long (31 * x4_15)] := by
                        intro t_1 h
                        unfold wj_Md_tellsMask_271 at h
                        refine v_i2l C dX6_tellsMask_271 ?_
                        refine v_ladd C dX6_tellsMask_272 ?_
                        refine v_topl (fun x4_17 ex4_17 => ?_)
                        replace h := h x4_17 ex4_17
                        refine v_lstore C [(4, .long x4_17), (7, .int x7_3), (6, .int x6_9), (0, .ref (ad 0)), (1, .long a1), (3, .int a3)] dX6_tellsMask_273 (by decide) rfl ?_
                        refine v_iinc C (x7_3 + 1) 1 [(7, .int (x7_3 + 1)), (4, .long x4_17), (6, .int x6_9), (0, .ref (ad 0)), (1, .long a1), (3, .int a3)] dX6_tellsMask_275 rfl rfl (by decide) rfl ?_
                        refine v_goto C 235 dX6_tellsMask_278 (by decide) ?_
                        refine v_perm [0, 2, 1, 3, 4, 5] rfl ?_
                        exact ih_4 (x7_3 + 1) x4_17 h
                      replace h := jn_use h
                      try dsimp only at h
                      refine v_icmp_ge C 269 dX6_tellsMask_254 (by decide) (fun c_3 => ?_) (fun c_3 => ?_)
                      · replace h := h.1 c_3
                        refine v_bipush C (-2) dX6_tellsMask_269 (by decide) ?_
                        exact hJ_1 (-2) h
                      · replace h := h.2 c_3
                        refine v_aload_n C dX6_tellsMask_257 rfl 3 rfl ?_
                        refine v_iload_n C dX6_tellsMask_258 rfl 5 rfl ?_
                        refine v_iload C dX6_tellsMask_259 1 rfl ?_
                        refine v_iload C dX6_tellsMask_261 0 rfl ?_
                        refine v_callVi C (c_Md_partBy l G ad forms sizes items moved latest rows fresh oldMask oldRows known drawn m_label_1 m_pile_1 m_parts_1 m_waitX_1 m_waitY_1 m_waitSide_1 m_waits_1 m_sign_1 m_signs_1 m_many_1 a3 x6_9 x7_3 h) 0 rfl rfl gX6_tellsMask_X6_partBy rfl kX6_partBy ⟨rfl, rfl⟩ ⟨Nat.le_of_ble_eq_true rfl, Nat.le_of_ble_eq_true rfl⟩ rfl (Nat.le_of_ble_eq_true rfl) dX6_tellsMask_263 (fun r_2 _ h => ?_)
                        try dsimp only at h
                        refine v_goto C 271 dX6_tellsMask_266 (by decide) ?_
                        exact hJ_1 r_2 h
                obtain ⟨k_3, h⟩ := h
                exact hl_3 k_3 0 x4_9 h
          obtain ⟨k_4, h⟩ := h
          exact hl_4 k_4 0 x4_8 h
        have hl_6 : ∀ n_5 : Nat, ∀ (x6_7 : Int32) (x4_7 : Int64), wl_Md_tellsMask_113 rows a3 m_label_1 (wx_Md_tellsMask_223 rows a3 Q m_waitX_1 m_waitY_1 m_waitSide_1 m_waits_1 m_sign_1 m_signs_1 m_many_1 m_label_1 m_pile_1 m_parts_1) n_5 x6_7 x4_7 → qm_V l G rmX6_tellsMask 8 X (mw G ad forms sizes items moved latest rows fresh oldMask oldRows known drawn m_label_1 m_pile_1 m_parts_1 m_waitX_1 m_waitY_1 m_waitSide_1 m_waits_1 m_sign_1 m_signs_1 m_many_1) [(6, .int x6_7), (4, .long x4_7), (0, .ref (ad 0)), (1, .long a1), (3, .int a3)] 113 [] := by
          intro n_5
          induction n_5 with
          | zero =>
            intro x6_7 x4_7 h
            exact False.elim h
          | succ n_5 ih_5 =>
            intro x6_7 x4_7 h
            rw [wl_Md_tellsMask_113] at h
            refine v_iload C dX6_tellsMask_113 0 rfl ?_
            refine v_bipush C 16 dX6_tellsMask_115 (by decide) ?_
            refine v_icmp_ge C 223 dX6_tellsMask_117 (by decide) (fun c_7 => ?_) (fun c_7 => ?_)
            · replace h := h.1 c_7
              exact hx_4 x6_7 x4_7 h
            · replace h := h.2 c_7
              refine v_iconst C 0 dX6_tellsMask_120 (by decide) ?_
              refine v_istore C [(7, .int 0), (6, .int x6_7), (4, .long x4_7), (0, .ref (ad 0)), (1, .long a1), (3, .int a3)] dX6_tellsMask_121 (by decide) rfl ?_
              have hx_5 : ∀ (x7_6 : Int32) (x4_19 : Int64), (fun (x7_6 : Int32) (x4_19 : Int64) => (wl_Md_tellsMask_113 rows a3 m_label_1 (wx_Md_tellsMask_223 rows a3 Q m_waitX_1 m_waitY_1 m_waitSide_1 m_waits_1 m_sign_1 m_signs_1 m_many_1 m_label_1 m_pile_1 m_parts_1) n_5) (x6_7 + 3) x4_19) x7_6 x4_19 → qm_V l G rmX6_tellsMask 8 X (mw G ad forms sizes items moved latest rows fresh oldMask oldRows known drawn m_label_1 m_pile_1 m_parts_1 m_waitX_1 m_waitY_1 m_waitSide_1 m_waits_1 m_sign_1 m_signs_1 m_many_1) [(7, .int x7_6), (6, .int x6_7), (4, .long x4_19), (0, .ref (ad 0)), (1, .long a1), (3, .int a3)] 217 [] := by
                intro x7_6 x4_19 h
                try dsimp only at h
                refine v_iinc C (x6_7 + 3) 1 [(6, .int (x6_7 + 3)), (7, .int x7_6), (4, .long x4_19), (0, .ref (ad 0)), (1, .long a1), (3, .int a3)] dX6_tellsMask_217 rfl rfl (by decide) rfl ?_
                refine v_goto C 113 dX6_tellsMask_220 (by decide) ?_
                refine v_perm [0, 2, 3, 4, 5] rfl ?_
                exact ih_5 (x6_7 + 3) x4_19 h
              have hl_5 : ∀ n_6 : Nat, ∀ (x7_5 : Int32) (x4_18 : Int64), wl_Md_tellsMask_123 rows a3 m_label_1 x6_7 (fun (x7_6 : Int32) (x4_19 : Int64) => (wl_Md_tellsMask_113 rows a3 m_label_1 (wx_Md_tellsMask_223 rows a3 Q m_waitX_1 m_waitY_1 m_waitSide_1 m_waits_1 m_sign_1 m_signs_1 m_many_1 m_label_1 m_pile_1 m_parts_1) n_5) (x6_7 + 3) x4_19) n_6 x7_5 x4_18 → qm_V l G rmX6_tellsMask 8 X (mw G ad forms sizes items moved latest rows fresh oldMask oldRows known drawn m_label_1 m_pile_1 m_parts_1 m_waitX_1 m_waitY_1 m_waitSide_1 m_waits_1 m_sign_1 m_signs_1 m_many_1) [(7, .int x7_5), (6, .int x6_7), (4, .long x4_18), (0, .ref (ad 0)), (1, .long a1), (3, .int a3)] 123 [] := by
                intro n_6
                induction n_6 with
                | zero =>
                  intro x7_5 x4_18 h
                  exact False.elim h
                | succ n_6 ih_6 =>
                  intro x7_5 x4_18 h
                  rw [wl_Md_tellsMask_123] at h
                  refine v_iload C dX6_tellsMask_123 0 rfl ?_
                  refine v_bipush C 16 dX6_tellsMask_125 (by decide) ?_
                  refine v_icmp_ge C 217 dX6_tellsMask_127 (by decide) (fun c_6 => ?_) (fun c_6 => ?_)
                  · replace h := h.1 c_6
                    exact hx_5 x7_5 x4_18 h
                  · replace h := h.2 c_6
                    refine v_ldc2 C 31 mX6_tellsMask_w1 dX6_tellsMask_130 ?_
                    refine v_lload C dX6_tellsMask_133 2 rfl ?_
                    refine v_lmul C dX6_tellsMask_135 ?_
                    refine v_aload_n C dX6_tellsMask_136 rfl 3 rfl ?_
                    refine v_iload_n C dX6_tellsMask_137 rfl 5 rfl ?_
                    refine v_iload C dX6_tellsMask_138 0 rfl ?_
                    refine v_iload C dX6_tellsMask_140 1 rfl ?_
                    refine v_callVi C (c_Md_dark l G ad forms sizes items moved latest rows fresh oldMask oldRows known drawn m_label_1 m_pile_1 m_parts_1 m_waitX_1 m_waitY_1 m_waitSide_1 m_waits_1 m_sign_1 m_signs_1 m_many_1 a3 x7_5 x6_7 h) 0 rfl rfl gX6_tellsMask_X6_dark rfl kX6_dark ⟨rfl, rfl⟩ ⟨Nat.le_of_ble_eq_true rfl, Nat.le_of_ble_eq_true rfl⟩ rfl (Nat.le_of_ble_eq_true rfl) dX6_tellsMask_142 (fun r_3 _ h => ?_)
                    try dsimp only at h
                    refine v_i2l C dX6_tellsMask_145 ?_
                    refine v_ladd C dX6_tellsMask_146 ?_
                    refine v_topl (fun x4_20 ex4_20 => ?_)
                    replace h := h x4_20 ex4_20
                    refine v_lstore C [(4, .long x4_20), (7, .int x7_5), (6, .int x6_7), (0, .ref (ad 0)), (1, .long a1), (3, .int a3)] dX6_tellsMask_147 (by decide) rfl ?_
                    refine v_ldc2 C 31 mX6_tellsMask_w1 dX6_tellsMask_149 ?_
                    refine v_lload C dX6_tellsMask_152 0 rfl ?_
                    refine v_lmul C dX6_tellsMask_154 ?_
                    refine v_aload_n C dX6_tellsMask_155 rfl 3 rfl ?_
                    refine v_iload_n C dX6_tellsMask_156 rfl 5 rfl ?_
                    refine v_iload C dX6_tellsMask_157 1 rfl ?_
                    refine v_iload C dX6_tellsMask_159 2 rfl ?_
                    refine v_iconst C 2 dX6_tellsMask_161 (by decide) ?_
                    refine v_callVi C (c_Md_blockBy l G ad forms sizes items moved latest rows fresh oldMask oldRows known drawn m_label_1 m_pile_1 m_parts_1 m_waitX_1 m_waitY_1 m_waitSide_1 m_waits_1 m_sign_1 m_signs_1 m_many_1 a3 x7_5 x6_7 2 h) 0 rfl rfl gX6_tellsMask_X6_blockBy rfl kX6_blockBy ⟨rfl, rfl⟩ ⟨Nat.le_of_ble_eq_true rfl, Nat.le_of_ble_eq_true rfl⟩ rfl (Nat.le_of_ble_eq_true rfl) dX6_tellsMask_162 (fun r_4 _ h => ?_)
                    try dsimp only at h
                    refine v_i2l C dX6_tellsMask_165 ?_
                    refine v_ladd C dX6_tellsMask_166 ?_
                    refine v_topl (fun x4_21 ex4_21 => ?_)
                    replace h := h x4_21 ex4_21
                    refine v_lstore C [(4, .long x4_21), (7, .int x7_5), (6, .int x6_7), (0, .ref (ad 0)), (1, .long a1), (3, .int a3)] dX6_tellsMask_167 (by decide) rfl ?_
                    refine v_ldc2 C 31 mX6_tellsMask_w1 dX6_tellsMask_169 ?_
                    refine v_lload C dX6_tellsMask_172 0 rfl ?_
                    refine v_lmul C dX6_tellsMask_174 ?_
                    refine v_aload_n C dX6_tellsMask_175 rfl 3 rfl ?_
                    refine v_get C iX6_tellsMask_6 0 rfl rfl 11 (by decide) mX6_tellsMask_w2 rfl rfl dX6_tellsMask_176 ?_
                    refine v_bipush C 16 dX6_tellsMask_179 (by decide) ?_
                    refine v_iload C dX6_tellsMask_181 2 rfl ?_
                    refine v_imul C dX6_tellsMask_183 ?_
                    refine v_iload C dX6_tellsMask_184 1 rfl ?_
                    refine v_iadd C dX6_tellsMask_186 ?_
                    obtain ⟨hin_1, h⟩ := h
                    refine v_iald C 9 rfl hin_1 dX6_tellsMask_187 ?_
                    refine v_i2l C dX6_tellsMask_188 ?_
                    refine v_ladd C dX6_tellsMask_189 ?_
                    refine v_topl (fun x4_22 ex4_22 => ?_)
                    replace h := h x4_22 ex4_22
                    refine v_lstore C [(4, .long x4_22), (7, .int x7_5), (6, .int x6_7), (0, .ref (ad 0)), (1, .long a1), (3, .int a3)] dX6_tellsMask_190 (by decide) rfl ?_
                    refine v_ldc2 C 31 mX6_tellsMask_w1 dX6_tellsMask_192 ?_
                    refine v_lload C dX6_tellsMask_195 0 rfl ?_
                    refine v_lmul C dX6_tellsMask_197 ?_
                    refine v_aload_n C dX6_tellsMask_198 rfl 3 rfl ?_
                    refine v_iload_n C dX6_tellsMask_199 rfl 5 rfl ?_
                    refine v_iload C dX6_tellsMask_200 1 rfl ?_
                    refine v_iload C dX6_tellsMask_202 2 rfl ?_
                    refine v_callVi C (c_Md_nearOf l G ad forms sizes items moved latest rows fresh oldMask oldRows known drawn m_label_1 m_pile_1 m_parts_1 m_waitX_1 m_waitY_1 m_waitSide_1 m_waits_1 m_sign_1 m_signs_1 m_many_1 a3 x7_5 x6_7 h) 0 rfl rfl gX6_tellsMask_X6_nearOf rfl kX6_nearOf ⟨rfl, rfl⟩ ⟨Nat.le_of_ble_eq_true rfl, Nat.le_of_ble_eq_true rfl⟩ rfl (Nat.le_of_ble_eq_true rfl) dX6_tellsMask_204 (fun r_5 _ h => ?_)
                    try dsimp only at h
                    refine v_i2l C dX6_tellsMask_207 ?_
                    refine v_ladd C dX6_tellsMask_208 ?_
                    refine v_topl (fun x4_23 ex4_23 => ?_)
                    replace h := h x4_23 ex4_23
                    refine v_lstore C [(4, .long x4_23), (7, .int x7_5), (6, .int x6_7), (0, .ref (ad 0)), (1, .long a1), (3, .int a3)] dX6_tellsMask_209 (by decide) rfl ?_
                    refine v_iinc C (x7_5 + 5) 1 [(7, .int (x7_5 + 5)), (4, .long x4_23), (6, .int x6_7), (0, .ref (ad 0)), (1, .long a1), (3, .int a3)] dX6_tellsMask_211 rfl rfl (by decide) rfl ?_
                    refine v_goto C 123 dX6_tellsMask_214 (by decide) ?_
                    refine v_perm [0, 2, 1, 3, 4, 5] rfl ?_
                    exact ih_6 (x7_5 + 5) x4_23 h
              obtain ⟨k_5, h⟩ := h
              exact hl_5 k_5 0 x4_7 h
        obtain ⟨k_6, h⟩ := h
        exact hl_6 k_6 0 x4_6 h
      have hl_7 : ∀ n_7 : Nat, ∀ (x6_5 : Int32) (x4_5 : Int64), wl_Md_tellsMask_75 m_sign_1 m_signs_1 (wx_Md_tellsMask_104 rows a3 Q label_2 pile_2 m_waitX_1 m_waitY_1 m_waitSide_1 m_waits_1 m_sign_1 m_signs_1 m_many_1) n_7 x6_5 x4_5 → qm_V l G rmX6_tellsMask 8 X (mw G ad forms sizes items moved latest rows fresh oldMask oldRows known drawn label_2 pile_2 parts_2 m_waitX_1 m_waitY_1 m_waitSide_1 m_waits_1 m_sign_1 m_signs_1 m_many_1) [(6, .int x6_5), (4, .long x4_5), (0, .ref (ad 0)), (1, .long a1), (3, .int a3)] 75 [] := by
        intro n_7
        induction n_7 with
        | zero =>
          intro x6_5 x4_5 h
          exact False.elim h
        | succ n_7 ih_7 =>
          intro x6_5 x4_5 h
          rw [wl_Md_tellsMask_75] at h
          refine v_iload C dX6_tellsMask_75 0 rfl ?_
          refine v_bipush C 41 dX6_tellsMask_77 (by decide) ?_
          refine v_icmp_ge C 104 dX6_tellsMask_79 (by decide) (fun c_8 => ?_) (fun c_8 => ?_)
          · replace h := h.1 c_8
            exact hx_6 x6_5 x4_5 h
          · replace h := h.2 c_8
            refine v_ldc2 C 31 mX6_tellsMask_w1 dX6_tellsMask_82 ?_
            refine v_lload C dX6_tellsMask_85 1 rfl ?_
            refine v_lmul C dX6_tellsMask_87 ?_
            refine v_aload_n C dX6_tellsMask_88 rfl 2 rfl ?_
            refine v_iload C dX6_tellsMask_89 0 rfl ?_
            refine v_callVi C (c_Md_signBy l G ad forms sizes items moved latest rows fresh oldMask oldRows known drawn label_2 pile_2 parts_2 m_waitX_1 m_waitY_1 m_waitSide_1 m_waits_1 m_sign_1 m_signs_1 m_many_1 x6_5 h) 0 rfl rfl gX6_tellsMask_X6_signBy rfl kX6_signBy ⟨rfl, rfl⟩ ⟨Nat.le_of_ble_eq_true rfl, Nat.le_of_ble_eq_true rfl⟩ rfl (Nat.le_of_ble_eq_true rfl) dX6_tellsMask_91 (fun r_6 _ h => ?_)
            try dsimp only at h
            refine v_i2l C dX6_tellsMask_94 ?_
            refine v_ladd C dX6_tellsMask_95 ?_
            refine v_topl (fun x4_24 ex4_24 => ?_)
            replace h := h x4_24 ex4_24
            refine v_lstore C [(4, .long x4_24), (6, .int x6_5), (0, .ref (ad 0)), (1, .long a1), (3, .int a3)] dX6_tellsMask_96 (by decide) rfl ?_
            refine v_iinc C (x6_5 + 1) 1 [(6, .int (x6_5 + 1)), (4, .long x4_24), (0, .ref (ad 0)), (1, .long a1), (3, .int a3)] dX6_tellsMask_98 rfl rfl (by decide) rfl ?_
            refine v_goto C 75 dX6_tellsMask_101 (by decide) ?_
            exact ih_7 (x6_5 + 1) x4_24 h
      obtain ⟨k_7, h⟩ := h
      exact hl_7 k_7 (-1) x4_4 h
    have hl_8 : ∀ n_8 : Nat, ∀ (x6_3 : Int32) (x4_3 : Int64) (label_1 : IA) (pile_1 : IA) (parts_1 : Int32), wl_Md_tellsMask_38 rows a3 (wx_Md_tellsMask_67 rows a3 Q waitX_2 waitY_2 waitSide_2 sign_2 many_2) n_8 x6_3 x4_3 label_1 pile_1 parts_1 → qm_V l G rmX6_tellsMask 8 X (mw G ad forms sizes items moved latest rows fresh oldMask oldRows known drawn label_1 pile_1 parts_1 waitX_2 waitY_2 waitSide_2 waits_2 sign_2 signs_2 many_2) [(6, .int x6_3), (4, .long x4_3), (0, .ref (ad 0)), (1, .long a1), (3, .int a3)] 38 [] := by
      intro n_8
      induction n_8 with
      | zero =>
        intro x6_3 x4_3 label_1 pile_1 parts_1 h
        exact False.elim h
      | succ n_8 ih_8 =>
        intro x6_3 x4_3 label_1 pile_1 parts_1 h
        rw [wl_Md_tellsMask_38] at h
        refine v_iload C dX6_tellsMask_38 0 rfl ?_
        refine v_iconst C 4 dX6_tellsMask_40 (by decide) ?_
        refine v_icmp_ge C 67 dX6_tellsMask_41 (by decide) (fun c_9 => ?_) (fun c_9 => ?_)
        · replace h := h.1 c_9
          exact hx_7 x6_3 x4_3 label_1 pile_1 parts_1 h
        · replace h := h.2 c_9
          refine v_ldc2 C 31 mX6_tellsMask_w1 dX6_tellsMask_44 ?_
          refine v_lload C dX6_tellsMask_47 1 rfl ?_
          refine v_lmul C dX6_tellsMask_49 ?_
          refine v_aload_n C dX6_tellsMask_50 rfl 2 rfl ?_
          refine v_iload_n C dX6_tellsMask_51 rfl 4 rfl ?_
          refine v_iload C dX6_tellsMask_52 0 rfl ?_
          refine v_callVi C (c_Md_allBy l G ad forms sizes items moved latest rows fresh oldMask oldRows known drawn label_1 pile_1 parts_1 waitX_2 waitY_2 waitSide_2 waits_2 sign_2 signs_2 many_2 a3 x6_3 h) 0 rfl rfl gX6_tellsMask_X6_allBy rfl kX6_allBy ⟨rfl, rfl⟩ ⟨Nat.le_of_ble_eq_true rfl, Nat.le_of_ble_eq_true rfl⟩ rfl (Nat.le_of_ble_eq_true rfl) dX6_tellsMask_54 (fun r_7 u h => ?_)
          obtain ⟨m_label_2, m_pile_2, m_parts_2⟩ := u
          try dsimp only at h
          refine v_world (ws' := mw G ad forms sizes items moved latest rows fresh oldMask oldRows known drawn m_label_2 m_pile_2 m_parts_2 waitX_2 waitY_2 waitSide_2 waits_2 sign_2 signs_2 many_2) rfl ?_
          refine v_i2l C dX6_tellsMask_57 ?_
          refine v_ladd C dX6_tellsMask_58 ?_
          refine v_topl (fun x4_25 ex4_25 => ?_)
          replace h := h x4_25 ex4_25
          refine v_lstore C [(4, .long x4_25), (6, .int x6_3), (0, .ref (ad 0)), (1, .long a1), (3, .int a3)] dX6_tellsMask_59 (by decide) rfl ?_
          refine v_iinc C (x6_3 + 1) 1 [(6, .int (x6_3 + 1)), (4, .long x4_25), (0, .ref (ad 0)), (1, .long a1), (3, .int a3)] dX6_tellsMask_61 rfl rfl (by decide) rfl ?_
          refine v_goto C 38 dX6_tellsMask_64 (by decide) ?_
          exact ih_8 (x6_3 + 1) x4_25 m_label_2 m_pile_2 m_parts_2 h
    obtain ⟨k_8, h⟩ := h
    exact hl_8 k_8 0 x4_2 label pile parts h
  have hl_9 : ∀ n_9 : Nat, ∀ (x6_1 : Int32) (x4_1 : Int64) (waitX_1 : IA) (waitY_1 : IA) (waitSide_1 : IA) (waits_1 : Int32) (sign_1 : IA) (signs_1 : Int32) (many_1 : IA), wl_Md_tellsMask_6 rows a3 (wx_Md_tellsMask_35 rows label pile parts a3 Q) n_9 x6_1 x4_1 waitX_1 waitY_1 waitSide_1 waits_1 sign_1 signs_1 many_1 → qm_V l G rmX6_tellsMask 8 X (mw G ad forms sizes items moved latest rows fresh oldMask oldRows known drawn label pile parts waitX_1 waitY_1 waitSide_1 waits_1 sign_1 signs_1 many_1) [(6, .int x6_1), (4, .long x4_1), (0, .ref (ad 0)), (1, .long a1), (3, .int a3)] 6 [] := by
    intro n_9
    induction n_9 with
    | zero =>
      intro x6_1 x4_1 waitX_1 waitY_1 waitSide_1 waits_1 sign_1 signs_1 many_1 h
      exact False.elim h
    | succ n_9 ih_9 =>
      intro x6_1 x4_1 waitX_1 waitY_1 waitSide_1 waits_1 sign_1 signs_1 many_1 h
      rw [wl_Md_tellsMask_6] at h
      refine v_iload C dX6_tellsMask_6 0 rfl ?_
      refine v_iconst C 4 dX6_tellsMask_8 (by decide) ?_
      refine v_icmp_ge C 35 dX6_tellsMask_9 (by decide) (fun c_10 => ?_) (fun c_10 => ?_)
      · replace h := h.1 c_10
        exact hx_8 x6_1 x4_1 waitX_1 waitY_1 waitSide_1 waits_1 sign_1 signs_1 many_1 h
      · replace h := h.2 c_10
        refine v_ldc2 C 31 mX6_tellsMask_w1 dX6_tellsMask_12 ?_
        refine v_lload C dX6_tellsMask_15 1 rfl ?_
        refine v_lmul C dX6_tellsMask_17 ?_
        refine v_aload_n C dX6_tellsMask_18 rfl 2 rfl ?_
        refine v_iload_n C dX6_tellsMask_19 rfl 4 rfl ?_
        refine v_iload C dX6_tellsMask_20 0 rfl ?_
        refine v_callVi C (c_Md_blocksBy l G ad forms sizes items moved latest rows fresh oldMask oldRows known drawn label pile parts waitX_1 waitY_1 waitSide_1 waits_1 sign_1 signs_1 many_1 a3 x6_1 h) 0 rfl rfl gX6_tellsMask_X6_blocksBy rfl kX6_blocksBy ⟨rfl, rfl⟩ ⟨Nat.le_of_ble_eq_true rfl, Nat.le_of_ble_eq_true rfl⟩ rfl (Nat.le_of_ble_eq_true rfl) dX6_tellsMask_22 (fun r_8 u h => ?_)
        obtain ⟨m_waitX_2, m_waitY_2, m_waitSide_2, m_waits_2, m_sign_2, m_signs_2, m_many_2⟩ := u
        try dsimp only at h
        refine v_world (ws' := mw G ad forms sizes items moved latest rows fresh oldMask oldRows known drawn label pile parts m_waitX_2 m_waitY_2 m_waitSide_2 m_waits_2 m_sign_2 m_signs_2 m_many_2) rfl ?_
        refine v_i2l C dX6_tellsMask_25 ?_
        refine v_ladd C dX6_tellsMask_26 ?_
        refine v_topl (fun x4_26 ex4_26 => ?_)
        replace h := h x4_26 ex4_26
        refine v_lstore C [(4, .long x4_26), (6, .int x6_1), (0, .ref (ad 0)), (1, .long a1), (3, .int a3)] dX6_tellsMask_27 (by decide) rfl ?_
        refine v_iinc C (x6_1 + 1) 1 [(6, .int (x6_1 + 1)), (4, .long x4_26), (0, .ref (ad 0)), (1, .long a1), (3, .int a3)] dX6_tellsMask_29 rfl rfl (by decide) rfl ?_
        refine v_goto C 6 dX6_tellsMask_32 (by decide) ?_
        exact ih_9 (x6_1 + 1) x4_26 m_waitX_2 m_waitY_2 m_waitSide_2 m_waits_2 m_sign_2 m_signs_2 m_many_2 h
  obtain ⟨k_9, h⟩ := h
  exact hl_9 k_9 0 a1 waitX waitY waitSide waits sign signs many h
-- QuarterMasksModel.digest
def rmX6_digest : Room := { frames := 9, cells := 0, slots := 0, locals := 235 }
theorem kX6_digest : yX6_digest.cls = RX6 ∧ yX6_digest.cls ≠ "java/lang/invoke/MethodHandle" ∧ yX6_digest.cls ≠ "java/lang/invoke/VarHandle" ∧ (parseMethodDescriptor yX6_digest.desc).map (fun d => d.parameters.length) = some 0 := by decide +kernel
theorem mX6_digest_w1 : Cond.constantLong RX6 240 (17) ∈ wsX6_digest := List.mem_of_getElem? (i := 1) rfl
theorem mX6_digest_w2 : Cond.constantLong RX6 238 (31) ∈ wsX6_digest := List.mem_of_getElem? (i := 2) rfl
def wl_Md_digest_33 (rows : IA) (Q : Int64 → IA → IA → Int32 → IA → IA → IA → Int32 → IA → Int32 → IA → Prop) : Nat → Int32 → Int64 → IA → IA → Int32 → IA → IA → IA → Int32 → IA → Int32 → IA → Prop
  | 0, _, _, _, _, _, _, _, _, _, _, _, _ => False
  | n + 1, x3_3, x1_3, label_3, pile_3, parts_3, waitX_3, waitY_3, waitSide_3, waits_3, sign_3, signs_3, many_3 => (4 ≤ x3_3 → (Q x1_3 label_3 pile_3 parts_3 waitX_3 waitY_3 waitSide_3 waits_3 sign_3 signs_3 many_3)) ∧ (¬ 4 ≤ x3_3 → (wp_Md_tellsMask rows label_3 pile_3 parts_3 waitX_3 waitY_3 waitSide_3 waits_3 sign_3 signs_3 many_3 x1_3 x3_3 (fun r_1 m_label_1 m_pile_1 m_parts_1 m_waitX_1 m_waitY_1 m_waitSide_1 m_waits_1 m_sign_1 m_signs_1 m_many_1 => (wl_Md_digest_33 rows Q n) (x3_3 + 1) r_1 m_label_1 m_pile_1 m_parts_1 m_waitX_1 m_waitY_1 m_waitSide_1 m_waits_1 m_sign_1 m_signs_1 m_many_1)))
def wx_Md_digest_31 (rows : IA) (Q : Int64 → IA → IA → Int32 → IA → IA → IA → Int32 → IA → Int32 → IA → Prop) (x3_2 : Int32) (x1_2 : Int64) (label_2 : IA) (pile_2 : IA) (parts_2 : Int32) (waitX_2 : IA) (waitY_2 : IA) (waitSide_2 : IA) (waits_2 : Int32) (sign_2 : IA) (signs_2 : Int32) (many_2 : IA) : Prop :=
  ∃ k_1 : Nat, wl_Md_digest_33 rows Q k_1 0 x1_2 label_2 pile_2 parts_2 waitX_2 waitY_2 waitSide_2 waits_2 sign_2 signs_2 many_2
def wl_Md_digest_6 (latest : Int32) (rows : IA) (known : Int32) (Kx_1 : Int32 → Int64 → IA → IA → Int32 → IA → IA → IA → Int32 → IA → Int32 → IA → Prop) : Nat → Int32 → Int64 → IA → IA → Int32 → IA → IA → IA → Int32 → IA → Int32 → IA → Prop
  | 0, _, _, _, _, _, _, _, _, _, _, _, _ => False
  | n + 1, x3_1, x1_1, label_1, pile_1, parts_1, waitX_1, waitY_1, waitSide_1, waits_1, sign_1, signs_1, many_1 => (8 ≤ x3_1 → (Kx_1 x3_1 x1_1 label_1 pile_1 parts_1 waitX_1 waitY_1 waitSide_1 waits_1 sign_1 signs_1 many_1)) ∧ (¬ 8 ≤ x3_1 → (wp_Md_count latest rows known label_1 pile_1 parts_1 waitX_1 waitY_1 waitSide_1 waits_1 sign_1 signs_1 many_1 x3_1 (fun r_2 m_label_2 m_pile_2 m_parts_2 m_waitX_2 m_waitY_2 m_waitSide_2 m_waits_2 m_sign_2 m_signs_2 m_many_2 => ∀ x1_4 : Int64, x1_4 = ((31 * x1_1) + (Int32.toInt64 r_2)) → ((wl_Md_digest_6 latest rows known Kx_1 n) (x3_1 + 1) x1_4 m_label_2 m_pile_2 m_parts_2 m_waitX_2 m_waitY_2 m_waitSide_2 m_waits_2 m_sign_2 m_signs_2 m_many_2))))
def wp_Md_digest (latest : Int32) (rows : IA) (known : Int32) (label : IA) (pile : IA) (parts : Int32) (waitX : IA) (waitY : IA) (waitSide : IA) (waits : Int32) (sign : IA) (signs : Int32) (many : IA)  (Q : Int64 → IA → IA → Int32 → IA → IA → IA → Int32 → IA → Int32 → IA → Prop) : Prop :=
  ∃ k_2 : Nat, wl_Md_digest_6 latest rows known (wx_Md_digest_31 rows Q) k_2 0 17 label pile parts waitX waitY waitSide waits sign signs many
set_option maxHeartbeats 4000000 in
theorem c_Md_digest (l : Launch) (G : GG) (ad : Nat → Nat) (forms : IA) (sizes : IA) (items : IA) (moved : IA) (latest : Int32) (rows : IA) (fresh : IA) (oldMask : IA) (oldRows : IA) (known : Int32) (drawn : Int32) (label : IA) (pile : IA) (parts : Int32) (waitX : IA) (waitY : IA) (waitSide : IA) (waits : Int32) (sign : IA) (signs : Int32) (many : IA)  {Q : Int64 → IA → IA → Int32 → IA → IA → IA → Int32 → IA → Int32 → IA → Prop} (h : wp_Md_digest latest rows known label pile parts waitX waitY waitSide waits sign signs many Q) : qm_ML l yX6_digest wsX6_digest rmX6_digest G [.ref (ad 0)] (mw G ad forms sizes items moved latest rows fresh oldMask oldRows known drawn label pile parts waitX waitY waitSide waits sign signs many) (fun (r : Int64) (u : IA × IA × Int32 × IA × IA × IA × Int32 × IA × Int32 × IA) => Q r u.1 u.2.1 u.2.2.1 u.2.2.2.1 u.2.2.2.2.1 u.2.2.2.2.2.1 u.2.2.2.2.2.2.1 u.2.2.2.2.2.2.2.1 u.2.2.2.2.2.2.2.2.1 u.2.2.2.2.2.2.2.2.2) (fun (u : IA × IA × Int32 × IA × IA × IA × Int32 × IA × Int32 × IA) => mw G ad forms sizes items moved latest rows fresh oldMask oldRows known drawn u.1 u.2.1 u.2.2.1 u.2.2.2.1 u.2.2.2.2.1 u.2.2.2.2.2.1 u.2.2.2.2.2.2.1 u.2.2.2.2.2.2.2.1 u.2.2.2.2.2.2.2.2.1 u.2.2.2.2.2.2.2.2.2) := by
  refine qm_mkL (cc := cX6_digest) (maxL := 4) (by decide) rfl (Nat.le_of_ble_eq_true rfl) ?_
  intro X C hret
  replace C : qm_C G 4 X cX6_digest wsX6_digest RX6 := C
  refine v_lv (lv' := [(0, .ref (ad 0))]) rfl ?_
  unfold wp_Md_digest at h
  refine v_ldc2 C 17 mX6_digest_w1 dX6_digest_0 ?_
  refine v_lstore_n C [(1, .long 17), (0, .ref (ad 0))] dX6_digest_3 rfl (by decide) rfl ?_
  refine v_iconst C 0 dX6_digest_4 (by decide) ?_
  refine v_istore_n C [(3, .int 0), (1, .long 17), (0, .ref (ad 0))] dX6_digest_5 rfl (by decide) rfl ?_
  have hx_1 : ∀ (x3_2 : Int32) (x1_2 : Int64) (label_2 : IA) (pile_2 : IA) (parts_2 : Int32) (waitX_2 : IA) (waitY_2 : IA) (waitSide_2 : IA) (waits_2 : Int32) (sign_2 : IA) (signs_2 : Int32) (many_2 : IA), (wx_Md_digest_31 rows Q) x3_2 x1_2 label_2 pile_2 parts_2 waitX_2 waitY_2 waitSide_2 waits_2 sign_2 signs_2 many_2 → qm_V l G rmX6_digest 4 X (mw G ad forms sizes items moved latest rows fresh oldMask oldRows known drawn label_2 pile_2 parts_2 waitX_2 waitY_2 waitSide_2 waits_2 sign_2 signs_2 many_2) [(3, .int x3_2), (1, .long x1_2), (0, .ref (ad 0))] 31 [] := by
    intro x3_2 x1_2 label_2 pile_2 parts_2 waitX_2 waitY_2 waitSide_2 waits_2 sign_2 signs_2 many_2 h
    unfold wx_Md_digest_31 at h
    refine v_iconst C 0 dX6_digest_31 (by decide) ?_
    refine v_istore_n C [(3, .int 0), (1, .long x1_2), (0, .ref (ad 0))] dX6_digest_32 rfl (by decide) rfl ?_
    have hl_1 : ∀ n_1 : Nat, ∀ (x3_3 : Int32) (x1_3 : Int64) (label_3 : IA) (pile_3 : IA) (parts_3 : Int32) (waitX_3 : IA) (waitY_3 : IA) (waitSide_3 : IA) (waits_3 : Int32) (sign_3 : IA) (signs_3 : Int32) (many_3 : IA), wl_Md_digest_33 rows Q n_1 x3_3 x1_3 label_3 pile_3 parts_3 waitX_3 waitY_3 waitSide_3 waits_3 sign_3 signs_3 many_3 → qm_V l G rmX6_digest 4 X (mw G ad forms sizes items moved latest rows fresh oldMask oldRows known drawn label_3 pile_3 parts_3 waitX_3 waitY_3 waitSide_3 waits_3 sign_3 signs_3 many_3) [(3, .int x3_3), (1, .long x1_3), (0, .ref (ad 0))] 33 [] := by
      intro n_1
      induction n_1 with
      | zero =>
        intro x3_3 x1_3 label_3 pile_3 parts_3 waitX_3 waitY_3 waitSide_3 waits_3 sign_3 signs_3 many_3 h
        exact False.elim h
      | succ n_1 ih_1 =>
        intro x3_3 x1_3 label_3 pile_3 parts_3 waitX_3 waitY_3 waitSide_3 waits_3 sign_3 signs_3 many_3 h
        rw [wl_Md_digest_33] at h
        refine v_iload_n C dX6_digest_33 rfl 0 rfl ?_
        refine v_iconst C 4 dX6_digest_34 (by decide) ?_
        refine v_icmp_ge C 51 dX6_digest_35 (by decide) (fun c_1 => ?_) (fun c_1 => ?_)
        · replace h := h.1 c_1
          refine v_lload_n C dX6_digest_51 rfl 1 rfl ?_
          exact hret _ _ _ x1_3 (label_3, pile_3, parts_3, waitX_3, waitY_3, waitSide_3, waits_3, sign_3, signs_3, many_3) h rfl dX6_digest_52
        · replace h := h.2 c_1
          refine v_aload_n C dX6_digest_38 rfl 2 rfl ?_
          refine v_lload_n C dX6_digest_39 rfl 1 rfl ?_
          refine v_iload_n C dX6_digest_40 rfl 0 rfl ?_
          refine v_callVl C (c_Md_tellsMask l G ad forms sizes items moved latest rows fresh oldMask oldRows known drawn label_3 pile_3 parts_3 waitX_3 waitY_3 waitSide_3 waits_3 sign_3 signs_3 many_3 x1_3 x3_3 h) 0 rfl rfl gX6_digest_X6_tellsMask rfl kX6_tellsMask ⟨rfl, rfl⟩ ⟨Nat.le_of_ble_eq_true rfl, Nat.le_of_ble_eq_true rfl⟩ rfl (Nat.le_of_ble_eq_true rfl) dX6_digest_41 (fun r_1 u h => ?_)
          obtain ⟨m_label_1, m_pile_1, m_parts_1, m_waitX_1, m_waitY_1, m_waitSide_1, m_waits_1, m_sign_1, m_signs_1, m_many_1⟩ := u
          try dsimp only at h
          refine v_world (ws' := mw G ad forms sizes items moved latest rows fresh oldMask oldRows known drawn m_label_1 m_pile_1 m_parts_1 m_waitX_1 m_waitY_1 m_waitSide_1 m_waits_1 m_sign_1 m_signs_1 m_many_1) rfl ?_
          refine v_lstore_n C [(1, .long r_1), (3, .int x3_3), (0, .ref (ad 0))] dX6_digest_44 rfl (by decide) rfl ?_
          refine v_iinc C (x3_3 + 1) 1 [(3, .int (x3_3 + 1)), (1, .long r_1), (0, .ref (ad 0))] dX6_digest_45 rfl rfl (by decide) rfl ?_
          refine v_goto C 33 dX6_digest_48 (by decide) ?_
          exact ih_1 (x3_3 + 1) r_1 m_label_1 m_pile_1 m_parts_1 m_waitX_1 m_waitY_1 m_waitSide_1 m_waits_1 m_sign_1 m_signs_1 m_many_1 h
    obtain ⟨k_1, h⟩ := h
    exact hl_1 k_1 0 x1_2 label_2 pile_2 parts_2 waitX_2 waitY_2 waitSide_2 waits_2 sign_2 signs_2 many_2 h
  have hl_2 : ∀ n_2 : Nat, ∀ (x3_1 : Int32) (x1_1 : Int64) (label_1 : IA) (pile_1 : IA) (parts_1 : Int32) (waitX_1 : IA) (waitY_1 : IA) (waitSide_1 : IA) (waits_1 : Int32) (sign_1 : IA) (signs_1 : Int32) (many_1 : IA), wl_Md_digest_6 latest rows known (wx_Md_digest_31 rows Q) n_2 x3_1 x1_1 label_1 pile_1 parts_1 waitX_1 waitY_1 waitSide_1 waits_1 sign_1 signs_1 many_1 → qm_V l G rmX6_digest 4 X (mw G ad forms sizes items moved latest rows fresh oldMask oldRows known drawn label_1 pile_1 parts_1 waitX_1 waitY_1 waitSide_1 waits_1 sign_1 signs_1 many_1) [(3, .int x3_1), (1, .long x1_1), (0, .ref (ad 0))] 6 [] := by
    intro n_2
    induction n_2 with
    | zero =>
      intro x3_1 x1_1 label_1 pile_1 parts_1 waitX_1 waitY_1 waitSide_1 waits_1 sign_1 signs_1 many_1 h
      exact False.elim h
    | succ n_2 ih_2 =>
      intro x3_1 x1_1 label_1 pile_1 parts_1 waitX_1 waitY_1 waitSide_1 waits_1 sign_1 signs_1 many_1 h
      rw [wl_Md_digest_6] at h
      refine v_iload_n C dX6_digest_6 rfl 0 rfl ?_
      refine v_bipush C 8 dX6_digest_7 (by decide) ?_
      refine v_icmp_ge C 31 dX6_digest_9 (by decide) (fun c_2 => ?_) (fun c_2 => ?_)
      · replace h := h.1 c_2
        exact hx_1 x3_1 x1_1 label_1 pile_1 parts_1 waitX_1 waitY_1 waitSide_1 waits_1 sign_1 signs_1 many_1 h
      · replace h := h.2 c_2
        refine v_ldc2 C 31 mX6_digest_w2 dX6_digest_12 ?_
        refine v_lload_n C dX6_digest_15 rfl 1 rfl ?_
        refine v_lmul C dX6_digest_16 ?_
        refine v_aload_n C dX6_digest_17 rfl 2 rfl ?_
        refine v_iload_n C dX6_digest_18 rfl 0 rfl ?_
        refine v_callVi C (c_Md_count l G ad forms sizes items moved latest rows fresh oldMask oldRows known drawn label_1 pile_1 parts_1 waitX_1 waitY_1 waitSide_1 waits_1 sign_1 signs_1 many_1 x3_1 h) 0 rfl rfl gX6_digest_X6_count rfl kX6_count ⟨rfl, rfl⟩ ⟨Nat.le_of_ble_eq_true rfl, Nat.le_of_ble_eq_true rfl⟩ rfl (Nat.le_of_ble_eq_true rfl) dX6_digest_19 (fun r_2 u h => ?_)
        obtain ⟨m_label_2, m_pile_2, m_parts_2, m_waitX_2, m_waitY_2, m_waitSide_2, m_waits_2, m_sign_2, m_signs_2, m_many_2⟩ := u
        try dsimp only at h
        refine v_world (ws' := mw G ad forms sizes items moved latest rows fresh oldMask oldRows known drawn m_label_2 m_pile_2 m_parts_2 m_waitX_2 m_waitY_2 m_waitSide_2 m_waits_2 m_sign_2 m_signs_2 m_many_2) rfl ?_
        refine v_i2l C dX6_digest_22 ?_
        refine v_ladd C dX6_digest_23 ?_
        refine v_topl (fun x1_4 ex1_4 => ?_)
        replace h := h x1_4 ex1_4
        refine v_lstore_n C [(1, .long x1_4), (3, .int x3_1), (0, .ref (ad 0))] dX6_digest_24 rfl (by decide) rfl ?_
        refine v_iinc C (x3_1 + 1) 1 [(3, .int (x3_1 + 1)), (1, .long x1_4), (0, .ref (ad 0))] dX6_digest_25 rfl rfl (by decide) rfl ?_
        refine v_goto C 6 dX6_digest_28 (by decide) ?_
        exact ih_2 (x3_1 + 1) x1_4 m_label_2 m_pile_2 m_parts_2 m_waitX_2 m_waitY_2 m_waitSide_2 m_waits_2 m_sign_2 m_signs_2 m_many_2 h
  obtain ⟨k_2, h⟩ := h
  exact hl_2 k_2 0 17 label pile parts waitX waitY waitSide waits sign signs many h
