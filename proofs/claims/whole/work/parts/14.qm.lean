/-! The class itself. Printed by wip/whole/gen/mkall.py. -/
-- QuarterMasks.isMask
def rmX5_isMask : Room := { frames := 2, cells := 0, slots := 0, locals := 61 }
theorem kX5_isMask : yX5_isMask.cls ≠ "java/lang/invoke/MethodHandle" ∧ yX5_isMask.cls ≠ "java/lang/invoke/VarHandle" ∧ (parseMethodDescriptor yX5_isMask.desc).map (fun d => d.parameters.length) = some 1 := by decide +kernel
def wp_Qm_isMask  (a0 : Int32) (Q : Int32 → Prop) : Prop :=
  wp_Qm_within a0 4 (fun r_1 => narrow .boolean (.int r_1) = .int r_1 ∧ Q r_1)
set_option maxHeartbeats 4000000 in
theorem c_Qm_isMask (l : Launch) (G : GG) (ws : va_W)  (a0 : Int32) {Q : Int32 → Prop} (h : wp_Qm_isMask a0 Q) : qm_MI l yX5_isMask wsX5_isMask rmX5_isMask G [.int a0] (ws) (fun (r : Int32) (_ : Unit) => Q r) (fun (_ : Unit) => ws) := by
  refine qm_mkZ (cc := cX5_isMask) (maxL := 1) (by decide) rfl (Nat.le_of_ble_eq_true rfl) ?_
  intro X C hret
  replace C : qm_C G 1 X cX5_isMask wsX5_isMask RX5 := C
  refine v_lv (lv' := [(0, .int a0)]) rfl ?_
  unfold wp_Qm_isMask at h
  refine v_iload_n C dX5_isMask_0 rfl 0 rfl ?_
  refine v_iconst C 4 dX5_isMask_1 (by decide) ?_
  refine v_callSi C (c_Qm_within l G (ws) a0 4 h) gX5_isMask_X5_within rfl kX5_within ⟨rfl, rfl⟩ ⟨Nat.le_of_ble_eq_true rfl, Nat.le_of_ble_eq_true rfl⟩ rfl (Nat.le_of_ble_eq_true rfl) dX5_isMask_2 (fun r_1 _ h => ?_)
  try dsimp only at h
  exact hret _ _ _ r_1 () h.2 h.1 rfl dX5_isMask_5
-- QuarterMasks.isCell
def rmX5_isCell : Room := { frames := 2, cells := 0, slots := 0, locals := 61 }
theorem kX5_isCell : yX5_isCell.cls ≠ "java/lang/invoke/MethodHandle" ∧ yX5_isCell.cls ≠ "java/lang/invoke/VarHandle" ∧ (parseMethodDescriptor yX5_isCell.desc).map (fun d => d.parameters.length) = some 2 := by decide +kernel
def wp_Qm_isCell  (a0 : Int32) (a1 : Int32) (Q : Int32 → Prop) : Prop :=
  wp_Qm_within a0 16 (fun r_1 => (r_1 = 0 → (Q 0)) ∧ (¬ r_1 = 0 → (wp_Qm_within a1 16 (fun r_2 => (r_2 = 0 → (Q 0)) ∧ (¬ r_2 = 0 → (Q 1))))))
set_option maxHeartbeats 4000000 in
theorem c_Qm_isCell (l : Launch) (G : GG) (ws : va_W)  (a0 : Int32) (a1 : Int32) {Q : Int32 → Prop} (h : wp_Qm_isCell a0 a1 Q) : qm_MI l yX5_isCell wsX5_isCell rmX5_isCell G [.int a0, .int a1] (ws) (fun (r : Int32) (_ : Unit) => Q r) (fun (_ : Unit) => ws) := by
  refine qm_mkZ (cc := cX5_isCell) (maxL := 2) (by decide) rfl (Nat.le_of_ble_eq_true rfl) ?_
  intro X C hret
  replace C : qm_C G 2 X cX5_isCell wsX5_isCell RX5 := C
  refine v_lv (lv' := [(0, .int a0), (1, .int a1)]) rfl ?_
  unfold wp_Qm_isCell at h
  refine v_iload_n C dX5_isCell_0 rfl 0 rfl ?_
  refine v_bipush C 16 dX5_isCell_1 (by decide) ?_
  refine v_callSi C (c_Qm_within l G (ws) a0 16 h) gX5_isCell_X5_within rfl kX5_within ⟨rfl, rfl⟩ ⟨Nat.le_of_ble_eq_true rfl, Nat.le_of_ble_eq_true rfl⟩ rfl (Nat.le_of_ble_eq_true rfl) dX5_isCell_3 (fun r_1 _ h => ?_)
  try dsimp only at h
  refine v_if_eq C 22 dX5_isCell_6 (by decide) (fun c_2 => ?_) (fun c_2 => ?_)
  · replace h := h.1 c_2
    refine v_iconst C 0 dX5_isCell_22 (by decide) ?_
    exact hret _ _ _ 0 () h rfl rfl dX5_isCell_23
  · replace h := h.2 c_2
    refine v_iload_n C dX5_isCell_9 rfl 1 rfl ?_
    refine v_bipush C 16 dX5_isCell_10 (by decide) ?_
    refine v_callSi C (c_Qm_within l G (ws) a1 16 h) gX5_isCell_X5_within rfl kX5_within ⟨rfl, rfl⟩ ⟨Nat.le_of_ble_eq_true rfl, Nat.le_of_ble_eq_true rfl⟩ rfl (Nat.le_of_ble_eq_true rfl) dX5_isCell_12 (fun r_2 _ h => ?_)
    try dsimp only at h
    refine v_if_eq C 22 dX5_isCell_15 (by decide) (fun c_1 => ?_) (fun c_1 => ?_)
    · replace h := h.1 c_1
      refine v_iconst C 0 dX5_isCell_22 (by decide) ?_
      exact hret _ _ _ 0 () h rfl rfl dX5_isCell_23
    · replace h := h.2 c_1
      refine v_iconst C 1 dX5_isCell_18 (by decide) ?_
      refine v_goto C 23 dX5_isCell_19 (by decide) ?_
      exact hret _ _ _ 1 () h rfl rfl dX5_isCell_23
-- QuarterMasks.isMove
def rmX5_isMove : Room := { frames := 1, cells := 0, slots := 0, locals := 40 }
theorem kX5_isMove : yX5_isMove.cls ≠ "java/lang/invoke/MethodHandle" ∧ yX5_isMove.cls ≠ "java/lang/invoke/VarHandle" ∧ (parseMethodDescriptor yX5_isMove.desc).map (fun d => d.parameters.length) = some 1 := by decide +kernel
def wp_Qm_isMove  (a0 : Int32) (Q : Int32 → Prop) : Prop :=
  (a0 < (-16) → (Q 0)) ∧ (¬ a0 < (-16) → ((16 < a0 → (Q 0)) ∧ (¬ 16 < a0 → (Q 1))))
set_option maxHeartbeats 4000000 in
theorem c_Qm_isMove (l : Launch) (G : GG) (ws : va_W)  (a0 : Int32) {Q : Int32 → Prop} (h : wp_Qm_isMove a0 Q) : qm_MI l yX5_isMove wsX5_isMove rmX5_isMove G [.int a0] (ws) (fun (r : Int32) (_ : Unit) => Q r) (fun (_ : Unit) => ws) := by
  refine qm_mkZ (cc := cX5_isMove) (maxL := 1) (by decide) rfl (Nat.le_of_ble_eq_true rfl) ?_
  intro X C hret
  replace C : qm_C G 1 X cX5_isMove wsX5_isMove RX5 := C
  refine v_lv (lv' := [(0, .int a0)]) rfl ?_
  unfold wp_Qm_isMove at h
  refine v_iload_n C dX5_isMove_0 rfl 0 rfl ?_
  refine v_bipush C (-16) dX5_isMove_1 (by decide) ?_
  refine v_icmp_lt C 16 dX5_isMove_3 (by decide) (fun c_2 => ?_) (fun c_2 => ?_)
  · replace h := h.1 c_2
    refine v_iconst C 0 dX5_isMove_16 (by decide) ?_
    exact hret _ _ _ 0 () h rfl rfl dX5_isMove_17
  · replace h := h.2 c_2
    refine v_iload_n C dX5_isMove_6 rfl 0 rfl ?_
    refine v_bipush C 16 dX5_isMove_7 (by decide) ?_
    refine v_icmp_gt C 16 dX5_isMove_9 (by decide) (fun c_1 => ?_) (fun c_1 => ?_)
    · replace h := h.1 c_1
      refine v_iconst C 0 dX5_isMove_16 (by decide) ?_
      exact hret _ _ _ 0 () h rfl rfl dX5_isMove_17
    · replace h := h.2 c_1
      refine v_iconst C 1 dX5_isMove_12 (by decide) ?_
      refine v_goto C 17 dX5_isMove_13 (by decide) ?_
      exact hret _ _ _ 1 () h rfl rfl dX5_isMove_17
-- QuarterMasks.isSheet
def rmX5_isSheet : Room := { frames := 2, cells := 0, slots := 0, locals := 61 }
theorem kX5_isSheet : yX5_isSheet.cls ≠ "java/lang/invoke/MethodHandle" ∧ yX5_isSheet.cls ≠ "java/lang/invoke/VarHandle" ∧ (parseMethodDescriptor yX5_isSheet.desc).map (fun d => d.parameters.length) = some 1 := by decide +kernel
def wp_Qm_isSheet  (a0 : Int32) (Q : Int32 → Prop) : Prop :=
  wp_Qm_within a0 4 (fun r_1 => narrow .boolean (.int r_1) = .int r_1 ∧ Q r_1)
set_option maxHeartbeats 4000000 in
theorem c_Qm_isSheet (l : Launch) (G : GG) (ws : va_W)  (a0 : Int32) {Q : Int32 → Prop} (h : wp_Qm_isSheet a0 Q) : qm_MI l yX5_isSheet wsX5_isSheet rmX5_isSheet G [.int a0] (ws) (fun (r : Int32) (_ : Unit) => Q r) (fun (_ : Unit) => ws) := by
  refine qm_mkZ (cc := cX5_isSheet) (maxL := 1) (by decide) rfl (Nat.le_of_ble_eq_true rfl) ?_
  intro X C hret
  replace C : qm_C G 1 X cX5_isSheet wsX5_isSheet RX5 := C
  refine v_lv (lv' := [(0, .int a0)]) rfl ?_
  unfold wp_Qm_isSheet at h
  refine v_iload_n C dX5_isSheet_0 rfl 0 rfl ?_
  refine v_iconst C 4 dX5_isSheet_1 (by decide) ?_
  refine v_callSi C (c_Qm_within l G (ws) a0 4 h) gX5_isSheet_X5_within rfl kX5_within ⟨rfl, rfl⟩ ⟨Nat.le_of_ble_eq_true rfl, Nat.le_of_ble_eq_true rfl⟩ rfl (Nat.le_of_ble_eq_true rfl) dX5_isSheet_2 (fun r_1 _ h => ?_)
  try dsimp only at h
  exact hret _ _ _ r_1 () h.2 h.1 rfl dX5_isSheet_5
-- QuarterMasks.found
def rmX5_found : Room := { frames := 1, cells := 0, slots := 0, locals := 40 }
theorem kX5_found : yX5_found.cls = RX5 ∧ yX5_found.cls ≠ "java/lang/invoke/MethodHandle" ∧ yX5_found.cls ≠ "java/lang/invoke/VarHandle" ∧ (parseMethodDescriptor yX5_found.desc).map (fun d => d.parameters.length) = some 1 := by decide +kernel
theorem mX5_found_w1 : Cond.fieldLink RX5 53 "QuarterMasks" "latestFinding" "I" ∈ wsX5_found := List.mem_of_getElem? (i := 1) rfl
theorem iX5_found_5 : ∀ w ∈ wsX50, w ∈ wsX5_found := fun w h => List.mem_cons_of_mem _ (List.mem_append_right _ h)
def wp_Qm_found  (a1 : Int32) (Q : Int32 → Int32 → Prop) : Prop :=
  Q ((-10) - a1) a1
set_option maxHeartbeats 4000000 in
theorem c_Qm_found (l : Launch) (G : GG) (ad : Nat → Nat) (lf : Int32) (chM : IA) (chR : IA) (chN : Int32) (chK : Int32) (md : IA) (sp : IA) (dS : IA) (dL : IA) (dR : IA) (dF : IA) (dP : Int32) (lS : IA) (lL : IA) (lR : IA) (lF : IA) (lP : Int32) (sS : IA) (sL : IA) (sT : Int32) (sD : Int32) (sM : Int32) (sX : Int32) (mk : Nat → IA) (si : Nat → IA) (sl : IA) (sf : IA) (ss : IA) (a1 : Int32) {Q : Int32 → Int32 → Prop} (h : wp_Qm_found a1 Q) : qm_MI l yX5_found wsX5_found rmX5_found G [.ref (ad 0), .int a1] (cw G ad lf chM chR chN chK md sp dS dL dR dF dP lS lL lR lF lP sS sL sT sD sM sX mk si sl sf ss) (fun (r : Int32) (u : Int32) => Q r u) (fun (u : Int32) => cw G ad u chM chR chN chK md sp dS dL dR dF dP lS lL lR lF lP sS sL sT sD sM sX mk si sl sf ss) := by
  refine qm_mkI (cc := cX5_found) (maxL := 2) (by decide) rfl (Nat.le_of_ble_eq_true rfl) ?_
  intro X C hret
  replace C : qm_C G 2 X cX5_found wsX5_found RX5 := C
  refine v_lv (lv' := [(0, .ref (ad 0)), (1, .int a1)]) rfl ?_
  unfold wp_Qm_found at h
  refine v_aload_n C dX5_found_0 rfl 0 rfl ?_
  refine v_iload_n C dX5_found_1 rfl 1 rfl ?_
  refine v_put C iX5_found_5 tyX5_ok nmX5 0 rfl rfl 8 (by decide) mX5_found_w1 rfl rfl rfl rfl rfl (Nat.le_of_ble_eq_true rfl) (ws' := cw G ad a1 chM chR chN chK md sp dS dL dR dF dP lS lL lR lF lP sS sL sT sD sM sX mk si sl sf ss) rfl dX5_found_2 ?_
  refine v_bipush C (-10) dX5_found_5 (by decide) ?_
  refine v_iload_n C dX5_found_7 rfl 1 rfl ?_
  refine v_isub C dX5_found_8 ?_
  exact hret _ _ _ ((-10) - a1) a1 h rfl dX5_found_9
-- QuarterMasks.become
def rmX5_become : Room := { frames := 3, cells := 0, slots := 0, locals := 86 }
theorem kX5_become : yX5_become.cls = RX5 ∧ yX5_become.cls ≠ "java/lang/invoke/MethodHandle" ∧ yX5_become.cls ≠ "java/lang/invoke/VarHandle" ∧ (parseMethodDescriptor yX5_become.desc).map (fun d => d.parameters.length) = some 1 := by decide +kernel
theorem mX5_become_w1 : Cond.fieldLink RX5 24 "QuarterMasks" "changes" "LQuarterMasks$Changes;" ∈ wsX5_become := List.mem_of_getElem? (i := 1) rfl
theorem iX5_become_5 : ∀ w ∈ wsX50, w ∈ wsX5_become := fun w h => List.mem_cons_of_mem _ (List.mem_append_left _ (List.mem_append_left _ (List.mem_append_right _ h)))
theorem mX5_become_w2 : Cond.fieldLink RX5 11 "QuarterMasks" "masks" "[LQuarterMasks$Grid;" ∈ wsX5_become := List.mem_of_getElem? (i := 2) rfl
theorem mX5_become_w3 : Cond.fieldLink RX5 29 "QuarterMasks" "made" "LQuarterMasks$Grid;" ∈ wsX5_become := List.mem_of_getElem? (i := 3) rfl
def wp_Qm_become (chM : IA) (chR : IA) (chN : Int32) (chK : Int32) (md : IA) (mk : Nat → IA) (a1 : Int32) (Q : Int32 → IA → IA → Int32 → Int32 → (Nat → IA) → Prop) : Prop :=
  vp_in a1 4 ∧ (wp_Ch_keep chM chR chN chK (mk a1.toNatClampNeg) a1 (fun m_masks_1 m_rows_1 m_next_1 m_known_1 => vp_in a1 4 ∧ (wp_Gr_take (mk a1.toNatClampNeg) md (fun m_rows_2 => wp_Gr_darkCells md (fun r_1 => Q r_1 m_masks_1 m_rows_1 m_next_1 m_known_1 (va_up mk a1.toNatClampNeg m_rows_2))))))
set_option maxHeartbeats 4000000 in
theorem c_Qm_become (l : Launch) (G : GG) (ad : Nat → Nat) (lf : Int32) (chM : IA) (chR : IA) (chN : Int32) (chK : Int32) (md : IA) (sp : IA) (dS : IA) (dL : IA) (dR : IA) (dF : IA) (dP : Int32) (lS : IA) (lL : IA) (lR : IA) (lF : IA) (lP : Int32) (sS : IA) (sL : IA) (sT : Int32) (sD : Int32) (sM : Int32) (sX : Int32) (mk : Nat → IA) (si : Nat → IA) (sl : IA) (sf : IA) (ss : IA) (a1 : Int32) {Q : Int32 → IA → IA → Int32 → Int32 → (Nat → IA) → Prop} (h : wp_Qm_become chM chR chN chK md mk a1 Q) : qm_MI l yX5_become wsX5_become rmX5_become G [.ref (ad 0), .int a1] (cw G ad lf chM chR chN chK md sp dS dL dR dF dP lS lL lR lF lP sS sL sT sD sM sX mk si sl sf ss) (fun (r : Int32) (u : IA × IA × Int32 × Int32 × (Nat → IA)) => Q r u.1 u.2.1 u.2.2.1 u.2.2.2.1 u.2.2.2.2) (fun (u : IA × IA × Int32 × Int32 × (Nat → IA)) => cw G ad lf u.1 u.2.1 u.2.2.1 u.2.2.2.1 md sp dS dL dR dF dP lS lL lR lF lP sS sL sT sD sM sX u.2.2.2.2 si sl sf ss) := by
  refine qm_mkI (cc := cX5_become) (maxL := 2) (by decide) rfl (Nat.le_of_ble_eq_true rfl) ?_
  intro X C hret
  replace C : qm_C G 2 X cX5_become wsX5_become RX5 := C
  refine v_lv (lv' := [(0, .ref (ad 0)), (1, .int a1)]) rfl ?_
  unfold wp_Qm_become at h
  refine v_aload_n C dX5_become_0 rfl 0 rfl ?_
  refine v_get C iX5_become_5 0 rfl rfl 2 (by decide) mX5_become_w1 rfl rfl dX5_become_1 ?_
  refine v_iload_n C dX5_become_4 rfl 1 rfl ?_
  refine v_aload_n C dX5_become_5 rfl 0 rfl ?_
  refine v_get C iX5_become_5 0 rfl rfl 0 (by decide) mX5_become_w2 rfl rfl dX5_become_6 ?_
  refine v_iload_n C dX5_become_9 rfl 1 rfl ?_
  obtain ⟨hin_1, h⟩ := h
  refine v_aldG C 1 rfl hin_1 rfl dX5_become_10 ?_
  refine v_callVv C (c_Ch_keep l G ad (fun y0 y1 y2 y3 => cw G ad lf y0 y1 y2 y3 md sp dS dL dR dF dP lS lL lR lF lP sS sL sT sD sM sX mk si sl sf ss) 3 (26 + 2 * a1.toNatClampNeg) (cw_ch G ad lf chM chR chN chK md sp dS dL dR dF dP lS lL lR lF lP sS sL sT sD sM sX mk si sl sf ss) (fun y0 y1 y2 y3 => (cw_mkR G ad lf y0 y1 y2 y3 md sp dS dL dR dF dP lS lL lR lF lP sS sL sT sD sM sX mk si sl sf ss (qm_lt4 hin_1))) chM chR chN chK a1 h) 3 rfl rfl gX5_become_X0_keep rfl kX0_keep ⟨rfl, rfl⟩ ⟨Nat.le_of_ble_eq_true rfl, Nat.le_of_ble_eq_true rfl⟩ rfl (Nat.le_of_ble_eq_true rfl) dX5_become_11 (fun u h => ?_)
  obtain ⟨m_masks_1, m_rows_1, m_next_1, m_known_1⟩ := u
  try dsimp only at h
  refine v_world (ws' := cw G ad lf m_masks_1 m_rows_1 m_next_1 m_known_1 md sp dS dL dR dF dP lS lL lR lF lP sS sL sT sD sM sX mk si sl sf ss) rfl ?_
  refine v_aload_n C dX5_become_14 rfl 0 rfl ?_
  refine v_get C iX5_become_5 0 rfl rfl 0 (by decide) mX5_become_w2 rfl rfl dX5_become_15 ?_
  refine v_iload_n C dX5_become_18 rfl 1 rfl ?_
  obtain ⟨hin_2, h⟩ := h
  refine v_aldG C 1 rfl hin_2 rfl dX5_become_19 ?_
  refine v_aload_n C dX5_become_20 rfl 0 rfl ?_
  refine v_get C iX5_become_5 0 rfl rfl 3 (by decide) mX5_become_w3 rfl rfl dX5_become_21 ?_
  refine v_world (ws' := cw G ad lf m_masks_1 m_rows_1 m_next_1 m_known_1 md sp dS dL dR dF dP lS lL lR lF lP sS sL sT sD sM sX (va_up mk a1.toNatClampNeg (mk a1.toNatClampNeg)) si sl sf ss) (by simp only [va_upI]) ?_
  refine v_callVv C (c_Gr_take l G ad (fun y0 => cw G ad lf m_masks_1 m_rows_1 m_next_1 m_known_1 md sp dS dL dR dF dP lS lL lR lF lP sS sL sT sD sM sX (va_up mk a1.toNatClampNeg y0) si sl sf ss) (26 + 2 * a1.toNatClampNeg) 6 (cw_mkW G ad lf m_masks_1 m_rows_1 m_next_1 m_known_1 md sp dS dL dR dF dP lS lL lR lF lP sS sL sT sD sM sX mk si sl sf ss (qm_lt4 hin_2)) (fun y0 => (cw_md G ad lf m_masks_1 m_rows_1 m_next_1 m_known_1 md sp dS dL dR dF dP lS lL lR lF lP sS sL sT sD sM sX (va_up mk a1.toNatClampNeg y0) si sl sf ss md).1) (mk a1.toNatClampNeg) h) (26 + 2 * a1.toNatClampNeg) (cw_mkR G ad lf m_masks_1 m_rows_1 m_next_1 m_known_1 md sp dS dL dR dF dP lS lL lR lF lP sS sL sT sD sM sX (va_up mk a1.toNatClampNeg (mk a1.toNatClampNeg)) si sl sf ss (qm_lt4 hin_2)).1 rfl gX5_become_X1_take rfl kX1_take ⟨rfl, rfl⟩ ⟨Nat.le_of_ble_eq_true rfl, Nat.le_of_ble_eq_true rfl⟩ rfl (Nat.le_of_ble_eq_true rfl) dX5_become_24 (fun m_rows_2 h => ?_)
  try dsimp only at h
  refine v_world (ws' := cw G ad lf m_masks_1 m_rows_1 m_next_1 m_known_1 md sp dS dL dR dF dP lS lL lR lF lP sS sL sT sD sM sX (va_up mk a1.toNatClampNeg m_rows_2) si sl sf ss) (by simp only [va_upI]) ?_
  refine v_aload_n C dX5_become_27 rfl 0 rfl ?_
  refine v_get C iX5_become_5 0 rfl rfl 3 (by decide) mX5_become_w3 rfl rfl dX5_become_28 ?_
  refine v_callVi C (c_Gr_darkCells l G ad (cw G ad lf m_masks_1 m_rows_1 m_next_1 m_known_1 md sp dS dL dR dF dP lS lL lR lF lP sS sL sT sD sM sX (va_up mk a1.toNatClampNeg m_rows_2) si sl sf ss) 6 (cw_md G ad lf m_masks_1 m_rows_1 m_next_1 m_known_1 md sp dS dL dR dF dP lS lL lR lF lP sS sL sT sD sM sX (va_up mk a1.toNatClampNeg m_rows_2) si sl sf ss md).1  h) 6 rfl rfl gX5_become_X1_darkCells rfl kX1_darkCells ⟨rfl, rfl⟩ ⟨Nat.le_of_ble_eq_true rfl, Nat.le_of_ble_eq_true rfl⟩ rfl (Nat.le_of_ble_eq_true rfl) dX5_become_31 (fun r_1 _ h => ?_)
  try dsimp only at h
  exact hret _ _ _ r_1 (m_masks_1, m_rows_1, m_next_1, m_known_1, (va_up mk a1.toNatClampNeg m_rows_2)) h rfl dX5_become_34
-- QuarterMasks.fill
def rmX5_fill : Room := { frames := 4, cells := 0, slots := 0, locals := 110 }
theorem kX5_fill : yX5_fill.cls = RX5 ∧ yX5_fill.cls ≠ "java/lang/invoke/MethodHandle" ∧ yX5_fill.cls ≠ "java/lang/invoke/VarHandle" ∧ (parseMethodDescriptor yX5_fill.desc).map (fun d => d.parameters.length) = some 6 := by decide +kernel
theorem mX5_fill_w1 : Cond.fieldLink RX5 29 "QuarterMasks" "made" "LQuarterMasks$Grid;" ∈ wsX5_fill := List.mem_of_getElem? (i := 1) rfl
theorem iX5_fill_5 : ∀ w ∈ wsX50, w ∈ wsX5_fill := fun w h => List.mem_cons_of_mem _ (List.mem_append_left _ (List.mem_append_left _ (List.mem_append_right _ h)))
theorem mX5_fill_w2 : Cond.fieldLink RX5 11 "QuarterMasks" "masks" "[LQuarterMasks$Grid;" ∈ wsX5_fill := List.mem_of_getElem? (i := 2) rfl
def wp_Qm_fill (chM : IA) (chR : IA) (chN : Int32) (chK : Int32) (md : IA) (mk : Nat → IA) (a1 : Int32) (a2 : Int32) (a3 : Int32) (a4 : Int32) (a5 : Int32) (a6 : Int32) (Q : Int32 → IA → IA → Int32 → Int32 → IA → (Nat → IA) → Prop) : Prop :=
  wp_Qm_isMask a1 (fun r_1 => (r_1 = 0 → (Q (-2) chM chR chN chK md mk)) ∧ (¬ r_1 = 0 → (wp_Qm_isCell a2 a3 (fun r_2 => (r_2 = 0 → (Q (-2) chM chR chN chK md mk)) ∧ (¬ r_2 = 0 → (wp_Qm_within a4 17 (fun r_3 => (r_3 = 0 → (Q (-2) chM chR chN chK md mk)) ∧ (¬ r_3 = 0 → (wp_Qm_within a5 17 (fun r_4 => (r_4 = 0 → (Q (-2) chM chR chN chK md mk)) ∧ (¬ r_4 = 0 → (wp_Qm_within a6 2 (fun r_5 => (r_5 = 0 → (Q (-2) chM chR chN chK md mk)) ∧ (¬ r_5 = 0 → (vp_in a1 4 ∧ (wp_Gr_take md (mk a1.toNatClampNeg) (fun m_rows_1 => wp_Gr_paint m_rows_1 a2 a3 a4 a5 a6 (fun m_rows_2 => wp_Qm_become chM chR chN chK m_rows_2 mk a1 (fun r_6 m_chM_1 m_chR_1 m_chN_1 m_chK_1 m_mk_1 => Q r_6 m_chM_1 m_chR_1 m_chN_1 m_chK_1 m_rows_2 m_mk_1)))))))))))))))))))
set_option maxHeartbeats 4000000 in
theorem c_Qm_fill (l : Launch) (G : GG) (ad : Nat → Nat) (lf : Int32) (chM : IA) (chR : IA) (chN : Int32) (chK : Int32) (md : IA) (sp : IA) (dS : IA) (dL : IA) (dR : IA) (dF : IA) (dP : Int32) (lS : IA) (lL : IA) (lR : IA) (lF : IA) (lP : Int32) (sS : IA) (sL : IA) (sT : Int32) (sD : Int32) (sM : Int32) (sX : Int32) (mk : Nat → IA) (si : Nat → IA) (sl : IA) (sf : IA) (ss : IA) (a1 : Int32) (a2 : Int32) (a3 : Int32) (a4 : Int32) (a5 : Int32) (a6 : Int32) {Q : Int32 → IA → IA → Int32 → Int32 → IA → (Nat → IA) → Prop} (h : wp_Qm_fill chM chR chN chK md mk a1 a2 a3 a4 a5 a6 Q) : qm_MI l yX5_fill wsX5_fill rmX5_fill G [.ref (ad 0), .int a1, .int a2, .int a3, .int a4, .int a5, .int a6] (cw G ad lf chM chR chN chK md sp dS dL dR dF dP lS lL lR lF lP sS sL sT sD sM sX mk si sl sf ss) (fun (r : Int32) (u : IA × IA × Int32 × Int32 × IA × (Nat → IA)) => Q r u.1 u.2.1 u.2.2.1 u.2.2.2.1 u.2.2.2.2.1 u.2.2.2.2.2) (fun (u : IA × IA × Int32 × Int32 × IA × (Nat → IA)) => cw G ad lf u.1 u.2.1 u.2.2.1 u.2.2.2.1 u.2.2.2.2.1 sp dS dL dR dF dP lS lL lR lF lP sS sL sT sD sM sX u.2.2.2.2.2 si sl sf ss) := by
  refine qm_mkI (cc := cX5_fill) (maxL := 7) (by decide) rfl (Nat.le_of_ble_eq_true rfl) ?_
  intro X C hret
  replace C : qm_C G 7 X cX5_fill wsX5_fill RX5 := C
  refine v_lv (lv' := [(0, .ref (ad 0)), (1, .int a1), (2, .int a2), (3, .int a3), (4, .int a4), (5, .int a5), (6, .int a6)]) rfl ?_
  unfold wp_Qm_fill at h
  refine v_iload_n C dX5_fill_0 rfl 1 rfl ?_
  refine v_callSi C (c_Qm_isMask l G (cw G ad lf chM chR chN chK md sp dS dL dR dF dP lS lL lR lF lP sS sL sT sD sM sX mk si sl sf ss) a1 h) gX5_fill_X5_isMask rfl kX5_isMask ⟨rfl, rfl⟩ ⟨Nat.le_of_ble_eq_true rfl, Nat.le_of_ble_eq_true rfl⟩ rfl (Nat.le_of_ble_eq_true rfl) dX5_fill_1 (fun r_1 _ h => ?_)
  try dsimp only at h
  refine v_if_eq C 44 dX5_fill_4 (by decide) (fun c_5 => ?_) (fun c_5 => ?_)
  · replace h := h.1 c_5
    refine v_bipush C (-2) dX5_fill_44 (by decide) ?_
    exact hret _ _ _ (-2) (chM, chR, chN, chK, md, mk) h rfl dX5_fill_46
  · replace h := h.2 c_5
    refine v_iload_n C dX5_fill_7 rfl 2 rfl ?_
    refine v_iload_n C dX5_fill_8 rfl 3 rfl ?_
    refine v_callSi C (c_Qm_isCell l G (cw G ad lf chM chR chN chK md sp dS dL dR dF dP lS lL lR lF lP sS sL sT sD sM sX mk si sl sf ss) a2 a3 h) gX5_fill_X5_isCell rfl kX5_isCell ⟨rfl, rfl⟩ ⟨Nat.le_of_ble_eq_true rfl, Nat.le_of_ble_eq_true rfl⟩ rfl (Nat.le_of_ble_eq_true rfl) dX5_fill_9 (fun r_2 _ h => ?_)
    try dsimp only at h
    refine v_if_eq C 44 dX5_fill_12 (by decide) (fun c_4 => ?_) (fun c_4 => ?_)
    · replace h := h.1 c_4
      refine v_bipush C (-2) dX5_fill_44 (by decide) ?_
      exact hret _ _ _ (-2) (chM, chR, chN, chK, md, mk) h rfl dX5_fill_46
    · replace h := h.2 c_4
      refine v_iload C dX5_fill_15 4 rfl ?_
      refine v_bipush C 17 dX5_fill_17 (by decide) ?_
      refine v_callSi C (c_Qm_within l G (cw G ad lf chM chR chN chK md sp dS dL dR dF dP lS lL lR lF lP sS sL sT sD sM sX mk si sl sf ss) a4 17 h) gX5_fill_X5_within rfl kX5_within ⟨rfl, rfl⟩ ⟨Nat.le_of_ble_eq_true rfl, Nat.le_of_ble_eq_true rfl⟩ rfl (Nat.le_of_ble_eq_true rfl) dX5_fill_19 (fun r_3 _ h => ?_)
      try dsimp only at h
      refine v_if_eq C 44 dX5_fill_22 (by decide) (fun c_3 => ?_) (fun c_3 => ?_)
      · replace h := h.1 c_3
        refine v_bipush C (-2) dX5_fill_44 (by decide) ?_
        exact hret _ _ _ (-2) (chM, chR, chN, chK, md, mk) h rfl dX5_fill_46
      · replace h := h.2 c_3
        refine v_iload C dX5_fill_25 5 rfl ?_
        refine v_bipush C 17 dX5_fill_27 (by decide) ?_
        refine v_callSi C (c_Qm_within l G (cw G ad lf chM chR chN chK md sp dS dL dR dF dP lS lL lR lF lP sS sL sT sD sM sX mk si sl sf ss) a5 17 h) gX5_fill_X5_within rfl kX5_within ⟨rfl, rfl⟩ ⟨Nat.le_of_ble_eq_true rfl, Nat.le_of_ble_eq_true rfl⟩ rfl (Nat.le_of_ble_eq_true rfl) dX5_fill_29 (fun r_4 _ h => ?_)
        try dsimp only at h
        refine v_if_eq C 44 dX5_fill_32 (by decide) (fun c_2 => ?_) (fun c_2 => ?_)
        · replace h := h.1 c_2
          refine v_bipush C (-2) dX5_fill_44 (by decide) ?_
          exact hret _ _ _ (-2) (chM, chR, chN, chK, md, mk) h rfl dX5_fill_46
        · replace h := h.2 c_2
          refine v_iload C dX5_fill_35 6 rfl ?_
          refine v_iconst C 2 dX5_fill_37 (by decide) ?_
          refine v_callSi C (c_Qm_within l G (cw G ad lf chM chR chN chK md sp dS dL dR dF dP lS lL lR lF lP sS sL sT sD sM sX mk si sl sf ss) a6 2 h) gX5_fill_X5_within rfl kX5_within ⟨rfl, rfl⟩ ⟨Nat.le_of_ble_eq_true rfl, Nat.le_of_ble_eq_true rfl⟩ rfl (Nat.le_of_ble_eq_true rfl) dX5_fill_38 (fun r_5 _ h => ?_)
          try dsimp only at h
          refine v_if_ne C 47 dX5_fill_41 (by decide) (fun c_1 => ?_) (fun c_1 => ?_)
          · replace h := h.2 c_1
            refine v_aload_n C dX5_fill_47 rfl 0 rfl ?_
            refine v_get C iX5_fill_5 0 rfl rfl 3 (by decide) mX5_fill_w1 rfl rfl dX5_fill_48 ?_
            refine v_aload_n C dX5_fill_51 rfl 0 rfl ?_
            refine v_get C iX5_fill_5 0 rfl rfl 0 (by decide) mX5_fill_w2 rfl rfl dX5_fill_52 ?_
            refine v_iload_n C dX5_fill_55 rfl 1 rfl ?_
            obtain ⟨hin_1, h⟩ := h
            refine v_aldG C 1 rfl hin_1 rfl dX5_fill_56 ?_
            refine v_callVv C (c_Gr_take l G ad (fun y0 => cw G ad lf chM chR chN chK y0 sp dS dL dR dF dP lS lL lR lF lP sS sL sT sD sM sX mk si sl sf ss) 6 (26 + 2 * a1.toNatClampNeg) (cw_md G ad lf chM chR chN chK md sp dS dL dR dF dP lS lL lR lF lP sS sL sT sD sM sX mk si sl sf ss) (fun y0 => (cw_mkR G ad lf chM chR chN chK y0 sp dS dL dR dF dP lS lL lR lF lP sS sL sT sD sM sX mk si sl sf ss (qm_lt4 hin_1))) md h) 6 rfl rfl gX5_fill_X1_take rfl kX1_take ⟨rfl, rfl⟩ ⟨Nat.le_of_ble_eq_true rfl, Nat.le_of_ble_eq_true rfl⟩ rfl (Nat.le_of_ble_eq_true rfl) dX5_fill_57 (fun m_rows_1 h => ?_)
            try dsimp only at h
            refine v_world (ws' := cw G ad lf chM chR chN chK m_rows_1 sp dS dL dR dF dP lS lL lR lF lP sS sL sT sD sM sX mk si sl sf ss) rfl ?_
            refine v_aload_n C dX5_fill_60 rfl 0 rfl ?_
            refine v_get C iX5_fill_5 0 rfl rfl 3 (by decide) mX5_fill_w1 rfl rfl dX5_fill_61 ?_
            refine v_iload_n C dX5_fill_64 rfl 2 rfl ?_
            refine v_iload_n C dX5_fill_65 rfl 3 rfl ?_
            refine v_iload C dX5_fill_66 4 rfl ?_
            refine v_iload C dX5_fill_68 5 rfl ?_
            refine v_iload C dX5_fill_70 6 rfl ?_
            refine v_callVv C (c_Gr_paint l G ad (fun y0 => cw G ad lf chM chR chN chK y0 sp dS dL dR dF dP lS lL lR lF lP sS sL sT sD sM sX mk si sl sf ss) 6 (cw_md G ad lf chM chR chN chK m_rows_1 sp dS dL dR dF dP lS lL lR lF lP sS sL sT sD sM sX mk si sl sf ss) m_rows_1 a2 a3 a4 a5 a6 h) 6 rfl rfl gX5_fill_X1_paint rfl kX1_paint ⟨rfl, rfl⟩ ⟨Nat.le_of_ble_eq_true rfl, Nat.le_of_ble_eq_true rfl⟩ rfl (Nat.le_of_ble_eq_true rfl) dX5_fill_72 (fun m_rows_2 h => ?_)
            try dsimp only at h
            refine v_world (ws' := cw G ad lf chM chR chN chK m_rows_2 sp dS dL dR dF dP lS lL lR lF lP sS sL sT sD sM sX mk si sl sf ss) rfl ?_
            refine v_aload_n C dX5_fill_75 rfl 0 rfl ?_
            refine v_iload_n C dX5_fill_76 rfl 1 rfl ?_
            refine v_callVi C (c_Qm_become l G ad lf chM chR chN chK m_rows_2 sp dS dL dR dF dP lS lL lR lF lP sS sL sT sD sM sX mk si sl sf ss a1 h) 0 rfl rfl gX5_fill_X5_become rfl kX5_become ⟨rfl, rfl⟩ ⟨Nat.le_of_ble_eq_true rfl, Nat.le_of_ble_eq_true rfl⟩ rfl (Nat.le_of_ble_eq_true rfl) dX5_fill_77 (fun r_6 u h => ?_)
            obtain ⟨m_chM_1, m_chR_1, m_chN_1, m_chK_1, m_mk_1⟩ := u
            try dsimp only at h
            refine v_world (ws' := cw G ad lf m_chM_1 m_chR_1 m_chN_1 m_chK_1 m_rows_2 sp dS dL dR dF dP lS lL lR lF lP sS sL sT sD sM sX m_mk_1 si sl sf ss) rfl ?_
            exact hret _ _ _ r_6 (m_chM_1, m_chR_1, m_chN_1, m_chK_1, m_rows_2, m_mk_1) h rfl dX5_fill_80
          · replace h := h.1 c_1
            refine v_bipush C (-2) dX5_fill_44 (by decide) ?_
            exact hret _ _ _ (-2) (chM, chR, chN, chK, md, mk) h rfl dX5_fill_46
-- QuarterMasks.dots
def rmX5_dots : Room := { frames := 4, cells := 0, slots := 0, locals := 107 }
theorem kX5_dots : yX5_dots.cls = RX5 ∧ yX5_dots.cls ≠ "java/lang/invoke/MethodHandle" ∧ yX5_dots.cls ≠ "java/lang/invoke/VarHandle" ∧ (parseMethodDescriptor yX5_dots.desc).map (fun d => d.parameters.length) = some 3 := by decide +kernel
theorem mX5_dots_w1 : Cond.fieldLink RX5 29 "QuarterMasks" "made" "LQuarterMasks$Grid;" ∈ wsX5_dots := List.mem_of_getElem? (i := 1) rfl
theorem iX5_dots_5 : ∀ w ∈ wsX50, w ∈ wsX5_dots := fun w h => List.mem_cons_of_mem _ (List.mem_append_left _ (List.mem_append_left _ (List.mem_append_right _ h)))
theorem mX5_dots_w2 : Cond.fieldLink RX5 11 "QuarterMasks" "masks" "[LQuarterMasks$Grid;" ∈ wsX5_dots := List.mem_of_getElem? (i := 2) rfl
theorem mX5_dots_w3 : Cond.constant RX5 81 (1103515245) ∈ wsX5_dots := List.mem_of_getElem? (i := 3) rfl
def wx_Qm_dots_90 (chM : IA) (chR : IA) (chN : Int32) (chK : Int32) (mk : Nat → IA) (a1 : Int32) (Q : Int32 → IA → IA → Int32 → Int32 → IA → (Nat → IA) → Prop) (x5_2 : Int32) (x4_2 : Int32) (md_2 : IA) : Prop :=
  wp_Qm_become chM chR chN chK md_2 mk a1 (fun r_3 m_chM_1 m_chR_1 m_chN_1 m_chK_1 m_mk_1 => Q r_3 m_chM_1 m_chR_1 m_chN_1 m_chK_1 md_2 m_mk_1)
def wl_Qm_dots_39 (a3 : Int32) (Kx_1 : Int32 → Int32 → IA → Prop) : Nat → Int32 → Int32 → IA → Prop
  | 0, _, _, _ => False
  | n + 1, x5_1, x4_1, md_1 => (a3 ≤ x5_1 → (Kx_1 x5_1 x4_1 md_1)) ∧ (¬ a3 ≤ x5_1 → (∀ x4_3 : Int32, x4_3 = ((1103515245 * x4_1) + 12345) → (∀ x6_1 : Int32, x6_1 = (jrem (jush x4_3 16) 256) → (wp_Gr_flip md_1 (jrem x6_1 16) (x6_1 / 16) (fun m_rows_2 => (wl_Qm_dots_39 a3 Kx_1 n) (x5_1 + 1) x4_3 m_rows_2)))))
def wp_Qm_dots (chM : IA) (chR : IA) (chN : Int32) (chK : Int32) (md : IA) (mk : Nat → IA) (a1 : Int32) (a2 : Int32) (a3 : Int32) (Q : Int32 → IA → IA → Int32 → Int32 → IA → (Nat → IA) → Prop) : Prop :=
  wp_Qm_isMask a1 (fun r_1 => (r_1 = 0 → (Q (-2) chM chR chN chK md mk)) ∧ (¬ r_1 = 0 → (wp_Qm_within a3 256 (fun r_2 => (r_2 = 0 → (Q (-2) chM chR chN chK md mk)) ∧ (¬ r_2 = 0 → (vp_in a1 4 ∧ (wp_Gr_take md (mk a1.toNatClampNeg) (fun m_rows_1 => ∃ k_1 : Nat, wl_Qm_dots_39 a3 (wx_Qm_dots_90 chM chR chN chK mk a1 Q) k_1 0 a2 m_rows_1))))))))
set_option maxHeartbeats 4000000 in
theorem c_Qm_dots (l : Launch) (G : GG) (ad : Nat → Nat) (lf : Int32) (chM : IA) (chR : IA) (chN : Int32) (chK : Int32) (md : IA) (sp : IA) (dS : IA) (dL : IA) (dR : IA) (dF : IA) (dP : Int32) (lS : IA) (lL : IA) (lR : IA) (lF : IA) (lP : Int32) (sS : IA) (sL : IA) (sT : Int32) (sD : Int32) (sM : Int32) (sX : Int32) (mk : Nat → IA) (si : Nat → IA) (sl : IA) (sf : IA) (ss : IA) (a1 : Int32) (a2 : Int32) (a3 : Int32) {Q : Int32 → IA → IA → Int32 → Int32 → IA → (Nat → IA) → Prop} (h : wp_Qm_dots chM chR chN chK md mk a1 a2 a3 Q) : qm_MI l yX5_dots wsX5_dots rmX5_dots G [.ref (ad 0), .int a1, .int a2, .int a3] (cw G ad lf chM chR chN chK md sp dS dL dR dF dP lS lL lR lF lP sS sL sT sD sM sX mk si sl sf ss) (fun (r : Int32) (u : IA × IA × Int32 × Int32 × IA × (Nat → IA)) => Q r u.1 u.2.1 u.2.2.1 u.2.2.2.1 u.2.2.2.2.1 u.2.2.2.2.2) (fun (u : IA × IA × Int32 × Int32 × IA × (Nat → IA)) => cw G ad lf u.1 u.2.1 u.2.2.1 u.2.2.2.1 u.2.2.2.2.1 sp dS dL dR dF dP lS lL lR lF lP sS sL sT sD sM sX u.2.2.2.2.2 si sl sf ss) := by
  refine qm_mkI (cc := cX5_dots) (maxL := 7) (by decide) rfl (Nat.le_of_ble_eq_true rfl) ?_
  intro X C hret
  replace C : qm_C G 7 X cX5_dots wsX5_dots RX5 := C
  refine v_lv (lv' := [(0, .ref (ad 0)), (1, .int a1), (2, .int a2), (3, .int a3)]) rfl ?_
  unfold wp_Qm_dots at h
  refine v_iload_n C dX5_dots_0 rfl 1 rfl ?_
  refine v_callSi C (c_Qm_isMask l G (cw G ad lf chM chR chN chK md sp dS dL dR dF dP lS lL lR lF lP sS sL sT sD sM sX mk si sl sf ss) a1 h) gX5_dots_X5_isMask rfl kX5_isMask ⟨rfl, rfl⟩ ⟨Nat.le_of_ble_eq_true rfl, Nat.le_of_ble_eq_true rfl⟩ rfl (Nat.le_of_ble_eq_true rfl) dX5_dots_1 (fun r_1 _ h => ?_)
  try dsimp only at h
  refine v_if_eq C 17 dX5_dots_4 (by decide) (fun c_3 => ?_) (fun c_3 => ?_)
  · replace h := h.1 c_3
    refine v_bipush C (-2) dX5_dots_17 (by decide) ?_
    exact hret _ _ _ (-2) (chM, chR, chN, chK, md, mk) h rfl dX5_dots_19
  · replace h := h.2 c_3
    refine v_iload_n C dX5_dots_7 rfl 3 rfl ?_
    refine v_sipush C 256 dX5_dots_8 (by decide) ?_
    refine v_callSi C (c_Qm_within l G (cw G ad lf chM chR chN chK md sp dS dL dR dF dP lS lL lR lF lP sS sL sT sD sM sX mk si sl sf ss) a3 256 h) gX5_dots_X5_within rfl kX5_within ⟨rfl, rfl⟩ ⟨Nat.le_of_ble_eq_true rfl, Nat.le_of_ble_eq_true rfl⟩ rfl (Nat.le_of_ble_eq_true rfl) dX5_dots_11 (fun r_2 _ h => ?_)
    try dsimp only at h
    refine v_if_ne C 20 dX5_dots_14 (by decide) (fun c_2 => ?_) (fun c_2 => ?_)
    · replace h := h.2 c_2
      refine v_aload_n C dX5_dots_20 rfl 0 rfl ?_
      refine v_get C iX5_dots_5 0 rfl rfl 3 (by decide) mX5_dots_w1 rfl rfl dX5_dots_21 ?_
      refine v_aload_n C dX5_dots_24 rfl 0 rfl ?_
      refine v_get C iX5_dots_5 0 rfl rfl 0 (by decide) mX5_dots_w2 rfl rfl dX5_dots_25 ?_
      refine v_iload_n C dX5_dots_28 rfl 1 rfl ?_
      obtain ⟨hin_1, h⟩ := h
      refine v_aldG C 1 rfl hin_1 rfl dX5_dots_29 ?_
      refine v_callVv C (c_Gr_take l G ad (fun y0 => cw G ad lf chM chR chN chK y0 sp dS dL dR dF dP lS lL lR lF lP sS sL sT sD sM sX mk si sl sf ss) 6 (26 + 2 * a1.toNatClampNeg) (cw_md G ad lf chM chR chN chK md sp dS dL dR dF dP lS lL lR lF lP sS sL sT sD sM sX mk si sl sf ss) (fun y0 => (cw_mkR G ad lf chM chR chN chK y0 sp dS dL dR dF dP lS lL lR lF lP sS sL sT sD sM sX mk si sl sf ss (qm_lt4 hin_1))) md h) 6 rfl rfl gX5_dots_X1_take rfl kX1_take ⟨rfl, rfl⟩ ⟨Nat.le_of_ble_eq_true rfl, Nat.le_of_ble_eq_true rfl⟩ rfl (Nat.le_of_ble_eq_true rfl) dX5_dots_30 (fun m_rows_1 h => ?_)
      try dsimp only at h
      refine v_world (ws' := cw G ad lf chM chR chN chK m_rows_1 sp dS dL dR dF dP lS lL lR lF lP sS sL sT sD sM sX mk si sl sf ss) rfl ?_
      refine v_iload_n C dX5_dots_33 rfl 2 rfl ?_
      refine v_istore C [(4, .int a2), (0, .ref (ad 0)), (1, .int a1), (2, .int a2), (3, .int a3)] dX5_dots_34 (by decide) rfl ?_
      refine v_iconst C 0 dX5_dots_36 (by decide) ?_
      refine v_istore C [(5, .int 0), (4, .int a2), (0, .ref (ad 0)), (1, .int a1), (2, .int a2), (3, .int a3)] dX5_dots_37 (by decide) rfl ?_
      have hx_1 : ∀ (x5_2 : Int32) (x4_2 : Int32) (md_2 : IA), (wx_Qm_dots_90 chM chR chN chK mk a1 Q) x5_2 x4_2 md_2 → qm_V l G rmX5_dots 7 X (cw G ad lf chM chR chN chK md_2 sp dS dL dR dF dP lS lL lR lF lP sS sL sT sD sM sX mk si sl sf ss) [(5, .int x5_2), (4, .int x4_2), (0, .ref (ad 0)), (1, .int a1), (2, .int a2), (3, .int a3)] 90 [] := by
        intro x5_2 x4_2 md_2 h
        unfold wx_Qm_dots_90 at h
        refine v_aload_n C dX5_dots_90 rfl 2 rfl ?_
        refine v_iload_n C dX5_dots_91 rfl 3 rfl ?_
        refine v_callVi C (c_Qm_become l G ad lf chM chR chN chK md_2 sp dS dL dR dF dP lS lL lR lF lP sS sL sT sD sM sX mk si sl sf ss a1 h) 0 rfl rfl gX5_dots_X5_become rfl kX5_become ⟨rfl, rfl⟩ ⟨Nat.le_of_ble_eq_true rfl, Nat.le_of_ble_eq_true rfl⟩ rfl (Nat.le_of_ble_eq_true rfl) dX5_dots_92 (fun r_3 u h => ?_)
        obtain ⟨m_chM_1, m_chR_1, m_chN_1, m_chK_1, m_mk_1⟩ := u
        try dsimp only at h
        refine v_world (ws' := cw G ad lf m_chM_1 m_chR_1 m_chN_1 m_chK_1 md_2 sp dS dL dR dF dP lS lL lR lF lP sS sL sT sD sM sX m_mk_1 si sl sf ss) rfl ?_
        exact hret _ _ _ r_3 (m_chM_1, m_chR_1, m_chN_1, m_chK_1, md_2, m_mk_1) h rfl dX5_dots_95
      have hl_1 : ∀ n_1 : Nat, ∀ (x5_1 : Int32) (x4_1 : Int32) (md_1 : IA), wl_Qm_dots_39 a3 (wx_Qm_dots_90 chM chR chN chK mk a1 Q) n_1 x5_1 x4_1 md_1 → qm_V l G rmX5_dots 7 X (cw G ad lf chM chR chN chK md_1 sp dS dL dR dF dP lS lL lR lF lP sS sL sT sD sM sX mk si sl sf ss) [(5, .int x5_1), (4, .int x4_1), (0, .ref (ad 0)), (1, .int a1), (2, .int a2), (3, .int a3)] 39 [] := by
        intro n_1
        induction n_1 with
        | zero =>
          intro x5_1 x4_1 md_1 h
          exact False.elim h
        | succ n_1 ih_1 =>
          intro x5_1 x4_1 md_1 h
          rw [wl_Qm_dots_39] at h
          refine v_iload C dX5_dots_39 0 rfl ?_
          refine v_iload_n C dX5_dots_41 rfl 5 rfl ?_
          refine v_icmp_ge C 90 dX5_dots_42 (by decide) (fun c_1 => ?_) (fun c_1 => ?_)
          · replace h := h.1 c_1
            exact hx_1 x5_1 x4_1 md_1 h
          · replace h := h.2 c_1
            refine v_ldc C 1103515245 mX5_dots_w3 dX5_dots_45 ?_
            refine v_iload C dX5_dots_47 1 rfl ?_
            refine v_imul C dX5_dots_49 ?_
            refine v_sipush C 12345 dX5_dots_50 (by decide) ?_
            refine v_iadd C dX5_dots_53 ?_
            refine v_topi (fun x4_3 ex4_3 => ?_)
            replace h := h x4_3 ex4_3
            refine v_istore C [(4, .int x4_3), (5, .int x5_1), (0, .ref (ad 0)), (1, .int a1), (2, .int a2), (3, .int a3)] dX5_dots_54 (by decide) rfl ?_
            refine v_iload C dX5_dots_56 0 rfl ?_
            refine v_bipush C 16 dX5_dots_58 (by decide) ?_
            refine v_iushr C dX5_dots_60 ?_
            refine v_sipush C 256 dX5_dots_61 (by decide) ?_
            refine v_irem C dX5_dots_64 (by decide) ?_
            refine v_topi (fun x6_1 ex6_1 => ?_)
            replace h := h x6_1 ex6_1
            refine v_istore C [(6, .int x6_1), (4, .int x4_3), (5, .int x5_1), (0, .ref (ad 0)), (1, .int a1), (2, .int a2), (3, .int a3)] dX5_dots_65 (by decide) rfl ?_
            refine v_aload_n C dX5_dots_67 rfl 3 rfl ?_
            refine v_get C iX5_dots_5 0 rfl rfl 3 (by decide) mX5_dots_w1 rfl rfl dX5_dots_68 ?_
            refine v_iload C dX5_dots_71 0 rfl ?_
            refine v_bipush C 16 dX5_dots_73 (by decide) ?_
            refine v_irem C dX5_dots_75 (by decide) ?_
            refine v_iload C dX5_dots_76 0 rfl ?_
            refine v_bipush C 16 dX5_dots_78 (by decide) ?_
            refine v_idiv C dX5_dots_80 (by decide) ?_
            refine v_callVv C (c_Gr_flip l G ad (fun y0 => cw G ad lf chM chR chN chK y0 sp dS dL dR dF dP lS lL lR lF lP sS sL sT sD sM sX mk si sl sf ss) 6 (cw_md G ad lf chM chR chN chK md_1 sp dS dL dR dF dP lS lL lR lF lP sS sL sT sD sM sX mk si sl sf ss) md_1 (jrem x6_1 16) (x6_1 / 16) h) 6 rfl rfl gX5_dots_X1_flip rfl kX1_flip ⟨rfl, rfl⟩ ⟨Nat.le_of_ble_eq_true rfl, Nat.le_of_ble_eq_true rfl⟩ rfl (Nat.le_of_ble_eq_true rfl) dX5_dots_81 (fun m_rows_2 h => ?_)
            try dsimp only at h
            refine v_world (ws' := cw G ad lf chM chR chN chK m_rows_2 sp dS dL dR dF dP lS lL lR lF lP sS sL sT sD sM sX mk si sl sf ss) rfl ?_
            refine v_iinc C (x5_1 + 1) 2 [(5, .int (x5_1 + 1)), (6, .int x6_1), (4, .int x4_3), (0, .ref (ad 0)), (1, .int a1), (2, .int a2), (3, .int a3)] dX5_dots_84 rfl rfl (by decide) rfl ?_
            refine v_goto C 39 dX5_dots_87 (by decide) ?_
            refine v_perm [0, 2, 3, 4, 5, 6] rfl ?_
            exact ih_1 (x5_1 + 1) x4_3 m_rows_2 h
      obtain ⟨k_1, h⟩ := h
      exact hl_1 k_1 0 a2 m_rows_1 h
    · replace h := h.1 c_2
      refine v_bipush C (-2) dX5_dots_17 (by decide) ?_
      exact hret _ _ _ (-2) (chM, chR, chN, chK, md, mk) h rfl dX5_dots_19
-- QuarterMasks.joinedRow
def rmX5_joinedRow : Room := { frames := 1, cells := 0, slots := 0, locals := 40 }
theorem kX5_joinedRow : yX5_joinedRow.cls ≠ "java/lang/invoke/MethodHandle" ∧ yX5_joinedRow.cls ≠ "java/lang/invoke/VarHandle" ∧ (parseMethodDescriptor yX5_joinedRow.desc).map (fun d => d.parameters.length) = some 3 := by decide +kernel
def wp_Qm_joinedRow  (a0 : Int32) (a1 : Int32) (a2 : Int32) (Q : Int32 → Prop) : Prop :=
  (a0 = 0 → (Q (a1 ||| a2))) ∧ (¬ a0 = 0 → ((a0 = 1 → (Q (a1 &&& a2))) ∧ (¬ a0 = 1 → ((a0 = 2 → (Q (a1 &&& (a2 ^^^ (-1))))) ∧ (¬ a0 = 2 → (Q (a1 ^^^ a2)))))))
set_option maxHeartbeats 4000000 in
theorem c_Qm_joinedRow (l : Launch) (G : GG) (ws : va_W)  (a0 : Int32) (a1 : Int32) (a2 : Int32) {Q : Int32 → Prop} (h : wp_Qm_joinedRow a0 a1 a2 Q) : qm_MI l yX5_joinedRow wsX5_joinedRow rmX5_joinedRow G [.int a0, .int a1, .int a2] (ws) (fun (r : Int32) (_ : Unit) => Q r) (fun (_ : Unit) => ws) := by
  refine qm_mkI (cc := cX5_joinedRow) (maxL := 3) (by decide) rfl (Nat.le_of_ble_eq_true rfl) ?_
  intro X C hret
  replace C : qm_C G 3 X cX5_joinedRow wsX5_joinedRow RX5 := C
  refine v_lv (lv' := [(0, .int a0), (1, .int a1), (2, .int a2)]) rfl ?_
  unfold wp_Qm_joinedRow at h
  refine v_iload_n C dX5_joinedRow_0 rfl 0 rfl ?_
  by_cases c_1 : a0 = 0
  · replace h := h.1 c_1
    refine v_tin C 0 28 c_1 dX5_joinedRow_1 (by decide) rfl (by decide) ?_
    refine v_iload_n C dX5_joinedRow_28 rfl 1 rfl ?_
    refine v_iload_n C dX5_joinedRow_29 rfl 2 rfl ?_
    refine v_ior C dX5_joinedRow_30 ?_
    exact hret _ _ _ (a1 ||| a2) () h rfl dX5_joinedRow_31
  · replace h := h.2 c_1
    by_cases c_2 : a0 = 1
    · replace h := h.1 c_2
      refine v_tin C 1 32 c_2 dX5_joinedRow_1 (by decide) rfl (by decide) ?_
      refine v_iload_n C dX5_joinedRow_32 rfl 1 rfl ?_
      refine v_iload_n C dX5_joinedRow_33 rfl 2 rfl ?_
      refine v_iand C dX5_joinedRow_34 ?_
      exact hret _ _ _ (a1 &&& a2) () h rfl dX5_joinedRow_35
    · replace h := h.2 c_2
      by_cases c_3 : a0 = 2
      · replace h := h.1 c_3
        refine v_tin C 2 36 c_3 dX5_joinedRow_1 (by decide) rfl (by decide) ?_
        refine v_iload_n C dX5_joinedRow_36 rfl 1 rfl ?_
        refine v_iload_n C dX5_joinedRow_37 rfl 2 rfl ?_
        refine v_iconst C (-1) dX5_joinedRow_38 (by decide) ?_
        refine v_ixor C dX5_joinedRow_39 ?_
        refine v_iand C dX5_joinedRow_40 ?_
        exact hret _ _ _ (a1 &&& (a2 ^^^ (-1))) () h rfl dX5_joinedRow_41
      · replace h := h.2 c_3
        have n1_0 := lv_neT c_1 (a := 0) (by decide)
        have n1_1 := lv_neT c_2 (a := 1) (by decide)
        have n1_2 := lv_neT c_3 (a := 2) (by decide)
        refine v_tout C 42 dX5_joinedRow_1 (by omega) (by decide) ?_
        refine v_iload_n C dX5_joinedRow_42 rfl 1 rfl ?_
        refine v_iload_n C dX5_joinedRow_43 rfl 2 rfl ?_
        refine v_ixor C dX5_joinedRow_44 ?_
        exact hret _ _ _ (a1 ^^^ a2) () h rfl dX5_joinedRow_45
-- QuarterMasks.join
def rmX5_join : Room := { frames := 4, cells := 0, slots := 0, locals := 107 }
theorem kX5_join : yX5_join.cls = RX5 ∧ yX5_join.cls ≠ "java/lang/invoke/MethodHandle" ∧ yX5_join.cls ≠ "java/lang/invoke/VarHandle" ∧ (parseMethodDescriptor yX5_join.desc).map (fun d => d.parameters.length) = some 4 := by decide +kernel
theorem mX5_join_w1 : Cond.fieldLink RX5 29 "QuarterMasks" "made" "LQuarterMasks$Grid;" ∈ wsX5_join := List.mem_of_getElem? (i := 1) rfl
theorem iX5_join_5 : ∀ w ∈ wsX50, w ∈ wsX5_join := fun w h => List.mem_cons_of_mem _ (List.mem_append_left _ (List.mem_append_left _ (List.mem_append_right _ h)))
theorem mX5_join_w2 : Cond.fieldLink RX5 11 "QuarterMasks" "masks" "[LQuarterMasks$Grid;" ∈ wsX5_join := List.mem_of_getElem? (i := 2) rfl
def wx_Qm_join_84 (chM : IA) (chR : IA) (chN : Int32) (chK : Int32) (mk : Nat → IA) (a4 : Int32) (Q : Int32 → IA → IA → Int32 → Int32 → IA → (Nat → IA) → Prop) (x5_2 : Int32) (md_2 : IA) : Prop :=
  wp_Qm_become chM chR chN chK md_2 mk a4 (fun r_5 m_chM_1 m_chR_1 m_chN_1 m_chK_1 m_mk_1 => Q r_5 m_chM_1 m_chR_1 m_chN_1 m_chK_1 md_2 m_mk_1)
def wl_Qm_join_36 (mk : Nat → IA) (a1 : Int32) (a2 : Int32) (a3 : Int32) (Kx_1 : Int32 → IA → Prop) : Nat → Int32 → IA → Prop
  | 0, _, _ => False
  | n + 1, x5_1, md_1 => (16 ≤ x5_1 → (Kx_1 x5_1 md_1)) ∧ (¬ 16 ≤ x5_1 → (vp_in a2 4 ∧ (wp_Gr_row (mk a2.toNatClampNeg) x5_1 (fun r_6 => vp_in a3 4 ∧ (wp_Gr_row (mk a3.toNatClampNeg) x5_1 (fun r_7 => wp_Qm_joinedRow a1 r_6 r_7 (fun r_8 => wp_Gr_setRow md_1 x5_1 r_8 (fun m_rows_1 => (wl_Qm_join_36 mk a1 a2 a3 Kx_1 n) (x5_1 + 1) m_rows_1))))))))
def wp_Qm_join (chM : IA) (chR : IA) (chN : Int32) (chK : Int32) (md : IA) (mk : Nat → IA) (a1 : Int32) (a2 : Int32) (a3 : Int32) (a4 : Int32) (Q : Int32 → IA → IA → Int32 → Int32 → IA → (Nat → IA) → Prop) : Prop :=
  wp_Qm_within a1 4 (fun r_1 => (r_1 = 0 → (Q (-2) chM chR chN chK md mk)) ∧ (¬ r_1 = 0 → (wp_Qm_isMask a2 (fun r_2 => (r_2 = 0 → (Q (-2) chM chR chN chK md mk)) ∧ (¬ r_2 = 0 → (wp_Qm_isMask a3 (fun r_3 => (r_3 = 0 → (Q (-2) chM chR chN chK md mk)) ∧ (¬ r_3 = 0 → (wp_Qm_isMask a4 (fun r_4 => (r_4 = 0 → (Q (-2) chM chR chN chK md mk)) ∧ (¬ r_4 = 0 → (∃ k_1 : Nat, wl_Qm_join_36 mk a1 a2 a3 (wx_Qm_join_84 chM chR chN chK mk a4 Q) k_1 0 md))))))))))))
set_option maxHeartbeats 4000000 in
theorem c_Qm_join (l : Launch) (G : GG) (ad : Nat → Nat) (lf : Int32) (chM : IA) (chR : IA) (chN : Int32) (chK : Int32) (md : IA) (sp : IA) (dS : IA) (dL : IA) (dR : IA) (dF : IA) (dP : Int32) (lS : IA) (lL : IA) (lR : IA) (lF : IA) (lP : Int32) (sS : IA) (sL : IA) (sT : Int32) (sD : Int32) (sM : Int32) (sX : Int32) (mk : Nat → IA) (si : Nat → IA) (sl : IA) (sf : IA) (ss : IA) (a1 : Int32) (a2 : Int32) (a3 : Int32) (a4 : Int32) {Q : Int32 → IA → IA → Int32 → Int32 → IA → (Nat → IA) → Prop} (h : wp_Qm_join chM chR chN chK md mk a1 a2 a3 a4 Q) : qm_MI l yX5_join wsX5_join rmX5_join G [.ref (ad 0), .int a1, .int a2, .int a3, .int a4] (cw G ad lf chM chR chN chK md sp dS dL dR dF dP lS lL lR lF lP sS sL sT sD sM sX mk si sl sf ss) (fun (r : Int32) (u : IA × IA × Int32 × Int32 × IA × (Nat → IA)) => Q r u.1 u.2.1 u.2.2.1 u.2.2.2.1 u.2.2.2.2.1 u.2.2.2.2.2) (fun (u : IA × IA × Int32 × Int32 × IA × (Nat → IA)) => cw G ad lf u.1 u.2.1 u.2.2.1 u.2.2.2.1 u.2.2.2.2.1 sp dS dL dR dF dP lS lL lR lF lP sS sL sT sD sM sX u.2.2.2.2.2 si sl sf ss) := by
  refine qm_mkI (cc := cX5_join) (maxL := 6) (by decide) rfl (Nat.le_of_ble_eq_true rfl) ?_
  intro X C hret
  replace C : qm_C G 6 X cX5_join wsX5_join RX5 := C
  refine v_lv (lv' := [(0, .ref (ad 0)), (1, .int a1), (2, .int a2), (3, .int a3), (4, .int a4)]) rfl ?_
  unfold wp_Qm_join at h
  refine v_iload_n C dX5_join_0 rfl 1 rfl ?_
  refine v_iconst C 4 dX5_join_1 (by decide) ?_
  refine v_callSi C (c_Qm_within l G (cw G ad lf chM chR chN chK md sp dS dL dR dF dP lS lL lR lF lP sS sL sT sD sM sX mk si sl sf ss) a1 4 h) gX5_join_X5_within rfl kX5_within ⟨rfl, rfl⟩ ⟨Nat.le_of_ble_eq_true rfl, Nat.le_of_ble_eq_true rfl⟩ rfl (Nat.le_of_ble_eq_true rfl) dX5_join_2 (fun r_1 _ h => ?_)
  try dsimp only at h
  refine v_if_eq C 30 dX5_join_5 (by decide) (fun c_5 => ?_) (fun c_5 => ?_)
  · replace h := h.1 c_5
    refine v_bipush C (-2) dX5_join_30 (by decide) ?_
    exact hret _ _ _ (-2) (chM, chR, chN, chK, md, mk) h rfl dX5_join_32
  · replace h := h.2 c_5
    refine v_iload_n C dX5_join_8 rfl 2 rfl ?_
    refine v_callSi C (c_Qm_isMask l G (cw G ad lf chM chR chN chK md sp dS dL dR dF dP lS lL lR lF lP sS sL sT sD sM sX mk si sl sf ss) a2 h) gX5_join_X5_isMask rfl kX5_isMask ⟨rfl, rfl⟩ ⟨Nat.le_of_ble_eq_true rfl, Nat.le_of_ble_eq_true rfl⟩ rfl (Nat.le_of_ble_eq_true rfl) dX5_join_9 (fun r_2 _ h => ?_)
    try dsimp only at h
    refine v_if_eq C 30 dX5_join_12 (by decide) (fun c_4 => ?_) (fun c_4 => ?_)
    · replace h := h.1 c_4
      refine v_bipush C (-2) dX5_join_30 (by decide) ?_
      exact hret _ _ _ (-2) (chM, chR, chN, chK, md, mk) h rfl dX5_join_32
    · replace h := h.2 c_4
      refine v_iload_n C dX5_join_15 rfl 3 rfl ?_
      refine v_callSi C (c_Qm_isMask l G (cw G ad lf chM chR chN chK md sp dS dL dR dF dP lS lL lR lF lP sS sL sT sD sM sX mk si sl sf ss) a3 h) gX5_join_X5_isMask rfl kX5_isMask ⟨rfl, rfl⟩ ⟨Nat.le_of_ble_eq_true rfl, Nat.le_of_ble_eq_true rfl⟩ rfl (Nat.le_of_ble_eq_true rfl) dX5_join_16 (fun r_3 _ h => ?_)
      try dsimp only at h
      refine v_if_eq C 30 dX5_join_19 (by decide) (fun c_3 => ?_) (fun c_3 => ?_)
      · replace h := h.1 c_3
        refine v_bipush C (-2) dX5_join_30 (by decide) ?_
        exact hret _ _ _ (-2) (chM, chR, chN, chK, md, mk) h rfl dX5_join_32
      · replace h := h.2 c_3
        refine v_iload C dX5_join_22 4 rfl ?_
        refine v_callSi C (c_Qm_isMask l G (cw G ad lf chM chR chN chK md sp dS dL dR dF dP lS lL lR lF lP sS sL sT sD sM sX mk si sl sf ss) a4 h) gX5_join_X5_isMask rfl kX5_isMask ⟨rfl, rfl⟩ ⟨Nat.le_of_ble_eq_true rfl, Nat.le_of_ble_eq_true rfl⟩ rfl (Nat.le_of_ble_eq_true rfl) dX5_join_24 (fun r_4 _ h => ?_)
        try dsimp only at h
        refine v_if_ne C 33 dX5_join_27 (by decide) (fun c_2 => ?_) (fun c_2 => ?_)
        · replace h := h.2 c_2
          refine v_iconst C 0 dX5_join_33 (by decide) ?_
          refine v_istore C [(5, .int 0), (0, .ref (ad 0)), (1, .int a1), (2, .int a2), (3, .int a3), (4, .int a4)] dX5_join_34 (by decide) rfl ?_
          have hx_1 : ∀ (x5_2 : Int32) (md_2 : IA), (wx_Qm_join_84 chM chR chN chK mk a4 Q) x5_2 md_2 → qm_V l G rmX5_join 6 X (cw G ad lf chM chR chN chK md_2 sp dS dL dR dF dP lS lL lR lF lP sS sL sT sD sM sX mk si sl sf ss) [(5, .int x5_2), (0, .ref (ad 0)), (1, .int a1), (2, .int a2), (3, .int a3), (4, .int a4)] 84 [] := by
            intro x5_2 md_2 h
            unfold wx_Qm_join_84 at h
            refine v_aload_n C dX5_join_84 rfl 1 rfl ?_
            refine v_iload C dX5_join_85 5 rfl ?_
            refine v_callVi C (c_Qm_become l G ad lf chM chR chN chK md_2 sp dS dL dR dF dP lS lL lR lF lP sS sL sT sD sM sX mk si sl sf ss a4 h) 0 rfl rfl gX5_join_X5_become rfl kX5_become ⟨rfl, rfl⟩ ⟨Nat.le_of_ble_eq_true rfl, Nat.le_of_ble_eq_true rfl⟩ rfl (Nat.le_of_ble_eq_true rfl) dX5_join_87 (fun r_5 u h => ?_)
            obtain ⟨m_chM_1, m_chR_1, m_chN_1, m_chK_1, m_mk_1⟩ := u
            try dsimp only at h
            refine v_world (ws' := cw G ad lf m_chM_1 m_chR_1 m_chN_1 m_chK_1 md_2 sp dS dL dR dF dP lS lL lR lF lP sS sL sT sD sM sX m_mk_1 si sl sf ss) rfl ?_
            exact hret _ _ _ r_5 (m_chM_1, m_chR_1, m_chN_1, m_chK_1, md_2, m_mk_1) h rfl dX5_join_90
          have hl_1 : ∀ n_1 : Nat, ∀ (x5_1 : Int32) (md_1 : IA), wl_Qm_join_36 mk a1 a2 a3 (wx_Qm_join_84 chM chR chN chK mk a4 Q) n_1 x5_1 md_1 → qm_V l G rmX5_join 6 X (cw G ad lf chM chR chN chK md_1 sp dS dL dR dF dP lS lL lR lF lP sS sL sT sD sM sX mk si sl sf ss) [(5, .int x5_1), (0, .ref (ad 0)), (1, .int a1), (2, .int a2), (3, .int a3), (4, .int a4)] 36 [] := by
            intro n_1
            induction n_1 with
            | zero =>
              intro x5_1 md_1 h
              exact False.elim h
            | succ n_1 ih_1 =>
              intro x5_1 md_1 h
              rw [wl_Qm_join_36] at h
              refine v_iload C dX5_join_36 0 rfl ?_
              refine v_bipush C 16 dX5_join_38 (by decide) ?_
              refine v_icmp_ge C 84 dX5_join_40 (by decide) (fun c_1 => ?_) (fun c_1 => ?_)
              · replace h := h.1 c_1
                exact hx_1 x5_1 md_1 h
              · replace h := h.2 c_1
                refine v_aload_n C dX5_join_43 rfl 1 rfl ?_
                refine v_get C iX5_join_5 0 rfl rfl 3 (by decide) mX5_join_w1 rfl rfl dX5_join_44 ?_
                refine v_iload C dX5_join_47 0 rfl ?_
                refine v_iload_n C dX5_join_49 rfl 2 rfl ?_
                refine v_aload_n C dX5_join_50 rfl 1 rfl ?_
                refine v_get C iX5_join_5 0 rfl rfl 0 (by decide) mX5_join_w2 rfl rfl dX5_join_51 ?_
                refine v_iload_n C dX5_join_54 rfl 3 rfl ?_
                obtain ⟨hin_1, h⟩ := h
                refine v_aldG C 1 rfl hin_1 rfl dX5_join_55 ?_
                refine v_iload C dX5_join_56 0 rfl ?_
                refine v_callVi C (c_Gr_row l G ad (cw G ad lf chM chR chN chK md_1 sp dS dL dR dF dP lS lL lR lF lP sS sL sT sD sM sX mk si sl sf ss) (26 + 2 * a2.toNatClampNeg) (cw_mkR G ad lf chM chR chN chK md_1 sp dS dL dR dF dP lS lL lR lF lP sS sL sT sD sM sX mk si sl sf ss (qm_lt4 hin_1))  x5_1 h) (26 + 2 * a2.toNatClampNeg) (cw_mkR G ad lf chM chR chN chK md_1 sp dS dL dR dF dP lS lL lR lF lP sS sL sT sD sM sX mk si sl sf ss (qm_lt4 hin_1)).1 rfl gX5_join_X1_row rfl kX1_row ⟨rfl, rfl⟩ ⟨Nat.le_of_ble_eq_true rfl, Nat.le_of_ble_eq_true rfl⟩ rfl (Nat.le_of_ble_eq_true rfl) dX5_join_58 (fun r_6 _ h => ?_)
                try dsimp only at h
                refine v_aload_n C dX5_join_61 rfl 1 rfl ?_
                refine v_get C iX5_join_5 0 rfl rfl 0 (by decide) mX5_join_w2 rfl rfl dX5_join_62 ?_
                refine v_iload_n C dX5_join_65 rfl 4 rfl ?_
                obtain ⟨hin_2, h⟩ := h
                refine v_aldG C 1 rfl hin_2 rfl dX5_join_66 ?_
                refine v_iload C dX5_join_67 0 rfl ?_
                refine v_callVi C (c_Gr_row l G ad (cw G ad lf chM chR chN chK md_1 sp dS dL dR dF dP lS lL lR lF lP sS sL sT sD sM sX mk si sl sf ss) (26 + 2 * a3.toNatClampNeg) (cw_mkR G ad lf chM chR chN chK md_1 sp dS dL dR dF dP lS lL lR lF lP sS sL sT sD sM sX mk si sl sf ss (qm_lt4 hin_2))  x5_1 h) (26 + 2 * a3.toNatClampNeg) (cw_mkR G ad lf chM chR chN chK md_1 sp dS dL dR dF dP lS lL lR lF lP sS sL sT sD sM sX mk si sl sf ss (qm_lt4 hin_2)).1 rfl gX5_join_X1_row rfl kX1_row ⟨rfl, rfl⟩ ⟨Nat.le_of_ble_eq_true rfl, Nat.le_of_ble_eq_true rfl⟩ rfl (Nat.le_of_ble_eq_true rfl) dX5_join_69 (fun r_7 _ h => ?_)
                try dsimp only at h
                refine v_callSi C (c_Qm_joinedRow l G (cw G ad lf chM chR chN chK md_1 sp dS dL dR dF dP lS lL lR lF lP sS sL sT sD sM sX mk si sl sf ss) a1 r_6 r_7 h) gX5_join_X5_joinedRow rfl kX5_joinedRow ⟨rfl, rfl⟩ ⟨Nat.le_of_ble_eq_true rfl, Nat.le_of_ble_eq_true rfl⟩ rfl (Nat.le_of_ble_eq_true rfl) dX5_join_72 (fun r_8 _ h => ?_)
                try dsimp only at h
                refine v_callVv C (c_Gr_setRow l G ad (fun y0 => cw G ad lf chM chR chN chK y0 sp dS dL dR dF dP lS lL lR lF lP sS sL sT sD sM sX mk si sl sf ss) 6 (cw_md G ad lf chM chR chN chK md_1 sp dS dL dR dF dP lS lL lR lF lP sS sL sT sD sM sX mk si sl sf ss) md_1 x5_1 r_8 h) 6 rfl rfl gX5_join_X1_setRow rfl kX1_setRow ⟨rfl, rfl⟩ ⟨Nat.le_of_ble_eq_true rfl, Nat.le_of_ble_eq_true rfl⟩ rfl (Nat.le_of_ble_eq_true rfl) dX5_join_75 (fun m_rows_1 h => ?_)
                try dsimp only at h
                refine v_world (ws' := cw G ad lf chM chR chN chK m_rows_1 sp dS dL dR dF dP lS lL lR lF lP sS sL sT sD sM sX mk si sl sf ss) rfl ?_
                refine v_iinc C (x5_1 + 1) 0 [(5, .int (x5_1 + 1)), (0, .ref (ad 0)), (1, .int a1), (2, .int a2), (3, .int a3), (4, .int a4)] dX5_join_78 rfl rfl (by decide) rfl ?_
                refine v_goto C 36 dX5_join_81 (by decide) ?_
                exact ih_1 (x5_1 + 1) m_rows_1 h
          obtain ⟨k_1, h⟩ := h
          exact hl_1 k_1 0 md h
        · replace h := h.1 c_2
          refine v_bipush C (-2) dX5_join_30 (by decide) ?_
          exact hret _ _ _ (-2) (chM, chR, chN, chK, md, mk) h rfl dX5_join_32
-- QuarterMasks.over
def rmX5_over : Room := { frames := 4, cells := 0, slots := 0, locals := 107 }
theorem kX5_over : yX5_over.cls = RX5 ∧ yX5_over.cls ≠ "java/lang/invoke/MethodHandle" ∧ yX5_over.cls ≠ "java/lang/invoke/VarHandle" ∧ (parseMethodDescriptor yX5_over.desc).map (fun d => d.parameters.length) = some 2 := by decide +kernel
theorem mX5_over_w1 : Cond.fieldLink RX5 29 "QuarterMasks" "made" "LQuarterMasks$Grid;" ∈ wsX5_over := List.mem_of_getElem? (i := 1) rfl
theorem iX5_over_5 : ∀ w ∈ wsX50, w ∈ wsX5_over := fun w h => List.mem_cons_of_mem _ (List.mem_append_left _ (List.mem_append_left _ (List.mem_append_right _ h)))
theorem mX5_over_w2 : Cond.fieldLink RX5 11 "QuarterMasks" "masks" "[LQuarterMasks$Grid;" ∈ wsX5_over := List.mem_of_getElem? (i := 2) rfl
def wp_Qm_over (chM : IA) (chR : IA) (chN : Int32) (chK : Int32) (md : IA) (mk : Nat → IA) (a1 : Int32) (a2 : Int32) (Q : Int32 → IA → IA → Int32 → Int32 → IA → (Nat → IA) → Prop) : Prop :=
  wp_Qm_isMask a1 (fun r_1 => (r_1 = 0 → (Q (-2) chM chR chN chK md mk)) ∧ (¬ r_1 = 0 → (wp_Qm_isMask a2 (fun r_2 => (r_2 = 0 → (Q (-2) chM chR chN chK md mk)) ∧ (¬ r_2 = 0 → (vp_in a1 4 ∧ (wp_Gr_takeTurnedOver md (mk a1.toNatClampNeg) (fun m_rows_1 => wp_Qm_become chM chR chN chK m_rows_1 mk a2 (fun r_3 m_chM_1 m_chR_1 m_chN_1 m_chK_1 m_mk_1 => Q r_3 m_chM_1 m_chR_1 m_chN_1 m_chK_1 m_rows_1 m_mk_1)))))))))
set_option maxHeartbeats 4000000 in
theorem c_Qm_over (l : Launch) (G : GG) (ad : Nat → Nat) (lf : Int32) (chM : IA) (chR : IA) (chN : Int32) (chK : Int32) (md : IA) (sp : IA) (dS : IA) (dL : IA) (dR : IA) (dF : IA) (dP : Int32) (lS : IA) (lL : IA) (lR : IA) (lF : IA) (lP : Int32) (sS : IA) (sL : IA) (sT : Int32) (sD : Int32) (sM : Int32) (sX : Int32) (mk : Nat → IA) (si : Nat → IA) (sl : IA) (sf : IA) (ss : IA) (a1 : Int32) (a2 : Int32) {Q : Int32 → IA → IA → Int32 → Int32 → IA → (Nat → IA) → Prop} (h : wp_Qm_over chM chR chN chK md mk a1 a2 Q) : qm_MI l yX5_over wsX5_over rmX5_over G [.ref (ad 0), .int a1, .int a2] (cw G ad lf chM chR chN chK md sp dS dL dR dF dP lS lL lR lF lP sS sL sT sD sM sX mk si sl sf ss) (fun (r : Int32) (u : IA × IA × Int32 × Int32 × IA × (Nat → IA)) => Q r u.1 u.2.1 u.2.2.1 u.2.2.2.1 u.2.2.2.2.1 u.2.2.2.2.2) (fun (u : IA × IA × Int32 × Int32 × IA × (Nat → IA)) => cw G ad lf u.1 u.2.1 u.2.2.1 u.2.2.2.1 u.2.2.2.2.1 sp dS dL dR dF dP lS lL lR lF lP sS sL sT sD sM sX u.2.2.2.2.2 si sl sf ss) := by
  refine qm_mkI (cc := cX5_over) (maxL := 3) (by decide) rfl (Nat.le_of_ble_eq_true rfl) ?_
  intro X C hret
  replace C : qm_C G 3 X cX5_over wsX5_over RX5 := C
  refine v_lv (lv' := [(0, .ref (ad 0)), (1, .int a1), (2, .int a2)]) rfl ?_
  unfold wp_Qm_over at h
  refine v_iload_n C dX5_over_0 rfl 1 rfl ?_
  refine v_callSi C (c_Qm_isMask l G (cw G ad lf chM chR chN chK md sp dS dL dR dF dP lS lL lR lF lP sS sL sT sD sM sX mk si sl sf ss) a1 h) gX5_over_X5_isMask rfl kX5_isMask ⟨rfl, rfl⟩ ⟨Nat.le_of_ble_eq_true rfl, Nat.le_of_ble_eq_true rfl⟩ rfl (Nat.le_of_ble_eq_true rfl) dX5_over_1 (fun r_1 _ h => ?_)
  try dsimp only at h
  refine v_if_eq C 14 dX5_over_4 (by decide) (fun c_2 => ?_) (fun c_2 => ?_)
  · replace h := h.1 c_2
    refine v_bipush C (-2) dX5_over_14 (by decide) ?_
    exact hret _ _ _ (-2) (chM, chR, chN, chK, md, mk) h rfl dX5_over_16
  · replace h := h.2 c_2
    refine v_iload_n C dX5_over_7 rfl 2 rfl ?_
    refine v_callSi C (c_Qm_isMask l G (cw G ad lf chM chR chN chK md sp dS dL dR dF dP lS lL lR lF lP sS sL sT sD sM sX mk si sl sf ss) a2 h) gX5_over_X5_isMask rfl kX5_isMask ⟨rfl, rfl⟩ ⟨Nat.le_of_ble_eq_true rfl, Nat.le_of_ble_eq_true rfl⟩ rfl (Nat.le_of_ble_eq_true rfl) dX5_over_8 (fun r_2 _ h => ?_)
    try dsimp only at h
    refine v_if_ne C 17 dX5_over_11 (by decide) (fun c_1 => ?_) (fun c_1 => ?_)
    · replace h := h.2 c_1
      refine v_aload_n C dX5_over_17 rfl 0 rfl ?_
      refine v_get C iX5_over_5 0 rfl rfl 3 (by decide) mX5_over_w1 rfl rfl dX5_over_18 ?_
      refine v_aload_n C dX5_over_21 rfl 0 rfl ?_
      refine v_get C iX5_over_5 0 rfl rfl 0 (by decide) mX5_over_w2 rfl rfl dX5_over_22 ?_
      refine v_iload_n C dX5_over_25 rfl 1 rfl ?_
      obtain ⟨hin_1, h⟩ := h
      refine v_aldG C 1 rfl hin_1 rfl dX5_over_26 ?_
      refine v_callVv C (c_Gr_takeTurnedOver l G ad (fun y0 => cw G ad lf chM chR chN chK y0 sp dS dL dR dF dP lS lL lR lF lP sS sL sT sD sM sX mk si sl sf ss) 6 (26 + 2 * a1.toNatClampNeg) (cw_md G ad lf chM chR chN chK md sp dS dL dR dF dP lS lL lR lF lP sS sL sT sD sM sX mk si sl sf ss) (fun y0 => (cw_mkR G ad lf chM chR chN chK y0 sp dS dL dR dF dP lS lL lR lF lP sS sL sT sD sM sX mk si sl sf ss (qm_lt4 hin_1))) md h) 6 rfl rfl gX5_over_X1_takeTurnedOver rfl kX1_takeTurnedOver ⟨rfl, rfl⟩ ⟨Nat.le_of_ble_eq_true rfl, Nat.le_of_ble_eq_true rfl⟩ rfl (Nat.le_of_ble_eq_true rfl) dX5_over_27 (fun m_rows_1 h => ?_)
      try dsimp only at h
      refine v_world (ws' := cw G ad lf chM chR chN chK m_rows_1 sp dS dL dR dF dP lS lL lR lF lP sS sL sT sD sM sX mk si sl sf ss) rfl ?_
      refine v_aload_n C dX5_over_30 rfl 0 rfl ?_
      refine v_iload_n C dX5_over_31 rfl 2 rfl ?_
      refine v_callVi C (c_Qm_become l G ad lf chM chR chN chK m_rows_1 sp dS dL dR dF dP lS lL lR lF lP sS sL sT sD sM sX mk si sl sf ss a2 h) 0 rfl rfl gX5_over_X5_become rfl kX5_become ⟨rfl, rfl⟩ ⟨Nat.le_of_ble_eq_true rfl, Nat.le_of_ble_eq_true rfl⟩ rfl (Nat.le_of_ble_eq_true rfl) dX5_over_32 (fun r_3 u h => ?_)
      obtain ⟨m_chM_1, m_chR_1, m_chN_1, m_chK_1, m_mk_1⟩ := u
      try dsimp only at h
      refine v_world (ws' := cw G ad lf m_chM_1 m_chR_1 m_chN_1 m_chK_1 m_rows_1 sp dS dL dR dF dP lS lL lR lF lP sS sL sT sD sM sX m_mk_1 si sl sf ss) rfl ?_
      exact hret _ _ _ r_3 (m_chM_1, m_chR_1, m_chN_1, m_chK_1, m_rows_1, m_mk_1) h rfl dX5_over_35
    · replace h := h.1 c_1
      refine v_bipush C (-2) dX5_over_14 (by decide) ?_
      exact hret _ _ _ (-2) (chM, chR, chN, chK, md, mk) h rfl dX5_over_16
-- QuarterMasks.move
def rmX5_move : Room := { frames := 4, cells := 0, slots := 0, locals := 107 }
theorem kX5_move : yX5_move.cls = RX5 ∧ yX5_move.cls ≠ "java/lang/invoke/MethodHandle" ∧ yX5_move.cls ≠ "java/lang/invoke/VarHandle" ∧ (parseMethodDescriptor yX5_move.desc).map (fun d => d.parameters.length) = some 4 := by decide +kernel
theorem mX5_move_w1 : Cond.fieldLink RX5 11 "QuarterMasks" "masks" "[LQuarterMasks$Grid;" ∈ wsX5_move := List.mem_of_getElem? (i := 1) rfl
theorem iX5_move_5 : ∀ w ∈ wsX50, w ∈ wsX5_move := fun w h => List.mem_cons_of_mem _ (List.mem_append_left _ (List.mem_append_left _ (List.mem_append_right _ h)))
theorem mX5_move_w2 : Cond.fieldLink RX5 29 "QuarterMasks" "made" "LQuarterMasks$Grid;" ∈ wsX5_move := List.mem_of_getElem? (i := 2) rfl
def wx_Qm_move_88 (chM : IA) (chR : IA) (chN : Int32) (chK : Int32) (mk : Nat → IA) (a4 : Int32) (Q : Int32 → IA → IA → Int32 → Int32 → IA → (Nat → IA) → Prop) (x5_2 : Int32) (md_2 : IA) : Prop :=
  wp_Qm_become chM chR chN chK md_2 mk a4 (fun r_5 m_chM_1 m_chR_1 m_chN_1 m_chK_1 m_mk_1 => Q r_5 m_chM_1 m_chR_1 m_chN_1 m_chK_1 md_2 m_mk_1)
def wj_Qm_move_79 (x5_1 : Int32) (md_1 : IA) (Kh_1 : Int32 → IA → Prop) (t_1 : Int32) : Prop :=
  wp_Gr_setRow md_1 x5_1 t_1 (fun m_rows_1 => Kh_1 (x5_1 + 1) m_rows_1)
def wl_Qm_move_35 (mk : Nat → IA) (a1 : Int32) (a2 : Int32) (a3 : Int32) (Kx_1 : Int32 → IA → Prop) : Nat → Int32 → IA → Prop
  | 0, _, _ => False
  | n + 1, x5_1, md_1 => (16 ≤ x5_1 → (Kx_1 x5_1 md_1)) ∧ (¬ 16 ≤ x5_1 → (vp_in a1 4 ∧ (wp_Gr_row (mk a1.toNatClampNeg) (x5_1 - a3) (fun r_6 => jn (wj_Qm_move_79 x5_1 md_1 (wl_Qm_move_35 mk a1 a2 a3 Kx_1 n)) (fun K_1 : Int32 → Prop => (0 ≤ a2 → (K_1 (jshl r_6 a2))) ∧ (¬ 0 ≤ a2 → (K_1 (jush r_6 (-a2)))))))))
def wp_Qm_move (chM : IA) (chR : IA) (chN : Int32) (chK : Int32) (md : IA) (mk : Nat → IA) (a1 : Int32) (a2 : Int32) (a3 : Int32) (a4 : Int32) (Q : Int32 → IA → IA → Int32 → Int32 → IA → (Nat → IA) → Prop) : Prop :=
  wp_Qm_isMask a1 (fun r_1 => (r_1 = 0 → (Q (-2) chM chR chN chK md mk)) ∧ (¬ r_1 = 0 → (wp_Qm_isMove a2 (fun r_2 => (r_2 = 0 → (Q (-2) chM chR chN chK md mk)) ∧ (¬ r_2 = 0 → (wp_Qm_isMove a3 (fun r_3 => (r_3 = 0 → (Q (-2) chM chR chN chK md mk)) ∧ (¬ r_3 = 0 → (wp_Qm_isMask a4 (fun r_4 => (r_4 = 0 → (Q (-2) chM chR chN chK md mk)) ∧ (¬ r_4 = 0 → (∃ k_1 : Nat, wl_Qm_move_35 mk a1 a2 a3 (wx_Qm_move_88 chM chR chN chK mk a4 Q) k_1 0 md))))))))))))
set_option maxHeartbeats 4000000 in
theorem c_Qm_move (l : Launch) (G : GG) (ad : Nat → Nat) (lf : Int32) (chM : IA) (chR : IA) (chN : Int32) (chK : Int32) (md : IA) (sp : IA) (dS : IA) (dL : IA) (dR : IA) (dF : IA) (dP : Int32) (lS : IA) (lL : IA) (lR : IA) (lF : IA) (lP : Int32) (sS : IA) (sL : IA) (sT : Int32) (sD : Int32) (sM : Int32) (sX : Int32) (mk : Nat → IA) (si : Nat → IA) (sl : IA) (sf : IA) (ss : IA) (a1 : Int32) (a2 : Int32) (a3 : Int32) (a4 : Int32) {Q : Int32 → IA → IA → Int32 → Int32 → IA → (Nat → IA) → Prop} (h : wp_Qm_move chM chR chN chK md mk a1 a2 a3 a4 Q) : qm_MI l yX5_move wsX5_move rmX5_move G [.ref (ad 0), .int a1, .int a2, .int a3, .int a4] (cw G ad lf chM chR chN chK md sp dS dL dR dF dP lS lL lR lF lP sS sL sT sD sM sX mk si sl sf ss) (fun (r : Int32) (u : IA × IA × Int32 × Int32 × IA × (Nat → IA)) => Q r u.1 u.2.1 u.2.2.1 u.2.2.2.1 u.2.2.2.2.1 u.2.2.2.2.2) (fun (u : IA × IA × Int32 × Int32 × IA × (Nat → IA)) => cw G ad lf u.1 u.2.1 u.2.2.1 u.2.2.2.1 u.2.2.2.2.1 sp dS dL dR dF dP lS lL lR lF lP sS sL sT sD sM sX u.2.2.2.2.2 si sl sf ss) := by
  refine qm_mkI (cc := cX5_move) (maxL := 7) (by decide) rfl (Nat.le_of_ble_eq_true rfl) ?_
  intro X C hret
  replace C : qm_C G 7 X cX5_move wsX5_move RX5 := C
  refine v_lv (lv' := [(0, .ref (ad 0)), (1, .int a1), (2, .int a2), (3, .int a3), (4, .int a4)]) rfl ?_
  unfold wp_Qm_move at h
  refine v_iload_n C dX5_move_0 rfl 1 rfl ?_
  refine v_callSi C (c_Qm_isMask l G (cw G ad lf chM chR chN chK md sp dS dL dR dF dP lS lL lR lF lP sS sL sT sD sM sX mk si sl sf ss) a1 h) gX5_move_X5_isMask rfl kX5_isMask ⟨rfl, rfl⟩ ⟨Nat.le_of_ble_eq_true rfl, Nat.le_of_ble_eq_true rfl⟩ rfl (Nat.le_of_ble_eq_true rfl) dX5_move_1 (fun r_1 _ h => ?_)
  try dsimp only at h
  refine v_if_eq C 29 dX5_move_4 (by decide) (fun c_6 => ?_) (fun c_6 => ?_)
  · replace h := h.1 c_6
    refine v_bipush C (-2) dX5_move_29 (by decide) ?_
    exact hret _ _ _ (-2) (chM, chR, chN, chK, md, mk) h rfl dX5_move_31
  · replace h := h.2 c_6
    refine v_iload_n C dX5_move_7 rfl 2 rfl ?_
    refine v_callSi C (c_Qm_isMove l G (cw G ad lf chM chR chN chK md sp dS dL dR dF dP lS lL lR lF lP sS sL sT sD sM sX mk si sl sf ss) a2 h) gX5_move_X5_isMove rfl kX5_isMove ⟨rfl, rfl⟩ ⟨Nat.le_of_ble_eq_true rfl, Nat.le_of_ble_eq_true rfl⟩ rfl (Nat.le_of_ble_eq_true rfl) dX5_move_8 (fun r_2 _ h => ?_)
    try dsimp only at h
    refine v_if_eq C 29 dX5_move_11 (by decide) (fun c_5 => ?_) (fun c_5 => ?_)
    · replace h := h.1 c_5
      refine v_bipush C (-2) dX5_move_29 (by decide) ?_
      exact hret _ _ _ (-2) (chM, chR, chN, chK, md, mk) h rfl dX5_move_31
    · replace h := h.2 c_5
      refine v_iload_n C dX5_move_14 rfl 3 rfl ?_
      refine v_callSi C (c_Qm_isMove l G (cw G ad lf chM chR chN chK md sp dS dL dR dF dP lS lL lR lF lP sS sL sT sD sM sX mk si sl sf ss) a3 h) gX5_move_X5_isMove rfl kX5_isMove ⟨rfl, rfl⟩ ⟨Nat.le_of_ble_eq_true rfl, Nat.le_of_ble_eq_true rfl⟩ rfl (Nat.le_of_ble_eq_true rfl) dX5_move_15 (fun r_3 _ h => ?_)
      try dsimp only at h
      refine v_if_eq C 29 dX5_move_18 (by decide) (fun c_4 => ?_) (fun c_4 => ?_)
      · replace h := h.1 c_4
        refine v_bipush C (-2) dX5_move_29 (by decide) ?_
        exact hret _ _ _ (-2) (chM, chR, chN, chK, md, mk) h rfl dX5_move_31
      · replace h := h.2 c_4
        refine v_iload C dX5_move_21 4 rfl ?_
        refine v_callSi C (c_Qm_isMask l G (cw G ad lf chM chR chN chK md sp dS dL dR dF dP lS lL lR lF lP sS sL sT sD sM sX mk si sl sf ss) a4 h) gX5_move_X5_isMask rfl kX5_isMask ⟨rfl, rfl⟩ ⟨Nat.le_of_ble_eq_true rfl, Nat.le_of_ble_eq_true rfl⟩ rfl (Nat.le_of_ble_eq_true rfl) dX5_move_23 (fun r_4 _ h => ?_)
        try dsimp only at h
        refine v_if_ne C 32 dX5_move_26 (by decide) (fun c_3 => ?_) (fun c_3 => ?_)
        · replace h := h.2 c_3
          refine v_iconst C 0 dX5_move_32 (by decide) ?_
          refine v_istore C [(5, .int 0), (0, .ref (ad 0)), (1, .int a1), (2, .int a2), (3, .int a3), (4, .int a4)] dX5_move_33 (by decide) rfl ?_
          have hx_1 : ∀ (x5_2 : Int32) (md_2 : IA), (wx_Qm_move_88 chM chR chN chK mk a4 Q) x5_2 md_2 → qm_V l G rmX5_move 7 X (cw G ad lf chM chR chN chK md_2 sp dS dL dR dF dP lS lL lR lF lP sS sL sT sD sM sX mk si sl sf ss) [(5, .int x5_2), (0, .ref (ad 0)), (1, .int a1), (2, .int a2), (3, .int a3), (4, .int a4)] 88 [] := by
            intro x5_2 md_2 h
            unfold wx_Qm_move_88 at h
            refine v_aload_n C dX5_move_88 rfl 1 rfl ?_
            refine v_iload C dX5_move_89 5 rfl ?_
            refine v_callVi C (c_Qm_become l G ad lf chM chR chN chK md_2 sp dS dL dR dF dP lS lL lR lF lP sS sL sT sD sM sX mk si sl sf ss a4 h) 0 rfl rfl gX5_move_X5_become rfl kX5_become ⟨rfl, rfl⟩ ⟨Nat.le_of_ble_eq_true rfl, Nat.le_of_ble_eq_true rfl⟩ rfl (Nat.le_of_ble_eq_true rfl) dX5_move_91 (fun r_5 u h => ?_)
            obtain ⟨m_chM_1, m_chR_1, m_chN_1, m_chK_1, m_mk_1⟩ := u
            try dsimp only at h
            refine v_world (ws' := cw G ad lf m_chM_1 m_chR_1 m_chN_1 m_chK_1 md_2 sp dS dL dR dF dP lS lL lR lF lP sS sL sT sD sM sX m_mk_1 si sl sf ss) rfl ?_
            exact hret _ _ _ r_5 (m_chM_1, m_chR_1, m_chN_1, m_chK_1, md_2, m_mk_1) h rfl dX5_move_94
          have hl_1 : ∀ n_1 : Nat, ∀ (x5_1 : Int32) (md_1 : IA), wl_Qm_move_35 mk a1 a2 a3 (wx_Qm_move_88 chM chR chN chK mk a4 Q) n_1 x5_1 md_1 → qm_V l G rmX5_move 7 X (cw G ad lf chM chR chN chK md_1 sp dS dL dR dF dP lS lL lR lF lP sS sL sT sD sM sX mk si sl sf ss) [(5, .int x5_1), (0, .ref (ad 0)), (1, .int a1), (2, .int a2), (3, .int a3), (4, .int a4)] 35 [] := by
            intro n_1
            induction n_1 with
            | zero =>
              intro x5_1 md_1 h
              exact False.elim h
            | succ n_1 ih_1 =>
              intro x5_1 md_1 h
              rw [wl_Qm_move_35] at h
              refine v_iload C dX5_move_35 0 rfl ?_
              refine v_bipush C 16 dX5_move_37 (by decide) ?_
              refine v_icmp_ge C 88 dX5_move_39 (by decide) (fun c_2 => ?_) (fun c_2 => ?_)
              · replace h := h.1 c_2
                exact hx_1 x5_1 md_1 h
              · replace h := h.2 c_2
                refine v_aload_n C dX5_move_42 rfl 1 rfl ?_
                refine v_get C iX5_move_5 0 rfl rfl 0 (by decide) mX5_move_w1 rfl rfl dX5_move_43 ?_
                refine v_iload_n C dX5_move_46 rfl 2 rfl ?_
                obtain ⟨hin_1, h⟩ := h
                refine v_aldG C 1 rfl hin_1 rfl dX5_move_47 ?_
                refine v_iload C dX5_move_48 0 rfl ?_
                refine v_iload_n C dX5_move_50 rfl 4 rfl ?_
                refine v_isub C dX5_move_51 ?_
                refine v_callVi C (c_Gr_row l G ad (cw G ad lf chM chR chN chK md_1 sp dS dL dR dF dP lS lL lR lF lP sS sL sT sD sM sX mk si sl sf ss) (26 + 2 * a1.toNatClampNeg) (cw_mkR G ad lf chM chR chN chK md_1 sp dS dL dR dF dP lS lL lR lF lP sS sL sT sD sM sX mk si sl sf ss (qm_lt4 hin_1))  (x5_1 - a3) h) (26 + 2 * a1.toNatClampNeg) (cw_mkR G ad lf chM chR chN chK md_1 sp dS dL dR dF dP lS lL lR lF lP sS sL sT sD sM sX mk si sl sf ss (qm_lt4 hin_1)).1 rfl gX5_move_X1_row rfl kX1_row ⟨rfl, rfl⟩ ⟨Nat.le_of_ble_eq_true rfl, Nat.le_of_ble_eq_true rfl⟩ rfl (Nat.le_of_ble_eq_true rfl) dX5_move_52 (fun r_6 _ h => ?_)
                try dsimp only at h
                refine v_istore C [(6, .int r_6), (5, .int x5_1), (0, .ref (ad 0)), (1, .int a1), (2, .int a2), (3, .int a3), (4, .int a4)] dX5_move_55 (by decide) rfl ?_
                refine v_aload_n C dX5_move_57 rfl 2 rfl ?_
                refine v_get C iX5_move_5 0 rfl rfl 3 (by decide) mX5_move_w2 rfl rfl dX5_move_58 ?_
                refine v_iload C dX5_move_61 1 rfl ?_
                refine v_iload_n C dX5_move_63 rfl 4 rfl ?_
                have hJ_1 : ∀ (t_1 : Int32), (wj_Qm_move_79 x5_1 md_1 (wl_Qm_move_35 mk a1 a2 a3 (wx_Qm_move_88 chM chR chN chK mk a4 Q) n_1)) t_1 → qm_V l G rmX5_move 7 X (cw G ad lf chM chR chN chK md_1 sp dS dL dR dF dP lS lL lR lF lP sS sL sT sD sM sX mk si sl sf ss) [(6, .int r_6), (5, .int x5_1), (0, .ref (ad 0)), (1, .int a1), (2, .int a2), (3, .int a3), (4, .int a4)] 79 [.int t_1, .int x5_1, .ref (ad 6)] := by
                  intro t_1 h
                  unfold wj_Qm_move_79 at h
                  refine v_callVv C (c_Gr_setRow l G ad (fun y0 => cw G ad lf chM chR chN chK y0 sp dS dL dR dF dP lS lL lR lF lP sS sL sT sD sM sX mk si sl sf ss) 6 (cw_md G ad lf chM chR chN chK md_1 sp dS dL dR dF dP lS lL lR lF lP sS sL sT sD sM sX mk si sl sf ss) md_1 x5_1 t_1 h) 6 rfl rfl gX5_move_X1_setRow rfl kX1_setRow ⟨rfl, rfl⟩ ⟨Nat.le_of_ble_eq_true rfl, Nat.le_of_ble_eq_true rfl⟩ rfl (Nat.le_of_ble_eq_true rfl) dX5_move_79 (fun m_rows_1 h => ?_)
                  try dsimp only at h
                  refine v_world (ws' := cw G ad lf chM chR chN chK m_rows_1 sp dS dL dR dF dP lS lL lR lF lP sS sL sT sD sM sX mk si sl sf ss) rfl ?_
                  refine v_iinc C (x5_1 + 1) 1 [(5, .int (x5_1 + 1)), (6, .int r_6), (0, .ref (ad 0)), (1, .int a1), (2, .int a2), (3, .int a3), (4, .int a4)] dX5_move_82 rfl rfl (by decide) rfl ?_
                  refine v_goto C 35 dX5_move_85 (by decide) ?_
                  refine v_perm [0, 2, 3, 4, 5, 6] rfl ?_
                  exact ih_1 (x5_1 + 1) m_rows_1 h
                replace h := jn_use h
                try dsimp only at h
                refine v_if_ge C 75 dX5_move_64 (by decide) (fun c_1 => ?_) (fun c_1 => ?_)
                · replace h := h.1 c_1
                  refine v_iload C dX5_move_75 0 rfl ?_
                  refine v_iload_n C dX5_move_77 rfl 4 rfl ?_
                  refine v_ishl C dX5_move_78 ?_
                  exact hJ_1 (jshl r_6 a2) h
                · replace h := h.2 c_1
                  refine v_iload C dX5_move_67 0 rfl ?_
                  refine v_iload_n C dX5_move_69 rfl 4 rfl ?_
                  refine v_ineg C dX5_move_70 ?_
                  refine v_iushr C dX5_move_71 ?_
                  refine v_goto C 79 dX5_move_72 (by decide) ?_
                  exact hJ_1 (jush r_6 (-a2)) h
          obtain ⟨k_1, h⟩ := h
          exact hl_1 k_1 0 md h
        · replace h := h.1 c_3
          refine v_bipush C (-2) dX5_move_29 (by decide) ?_
          exact hret _ _ _ (-2) (chM, chR, chN, chK, md, mk) h rfl dX5_move_31
-- QuarterMasks.turn
def rmX5_turn : Room := { frames := 4, cells := 0, slots := 0, locals := 107 }
theorem kX5_turn : yX5_turn.cls = RX5 ∧ yX5_turn.cls ≠ "java/lang/invoke/MethodHandle" ∧ yX5_turn.cls ≠ "java/lang/invoke/VarHandle" ∧ (parseMethodDescriptor yX5_turn.desc).map (fun d => d.parameters.length) = some 3 := by decide +kernel
theorem mX5_turn_w1 : Cond.fieldLink RX5 29 "QuarterMasks" "made" "LQuarterMasks$Grid;" ∈ wsX5_turn := List.mem_of_getElem? (i := 1) rfl
theorem iX5_turn_5 : ∀ w ∈ wsX50, w ∈ wsX5_turn := fun w h => List.mem_cons_of_mem _ (List.mem_append_left _ (List.mem_append_left _ (List.mem_append_right _ h)))
theorem mX5_turn_w2 : Cond.fieldLink RX5 11 "QuarterMasks" "masks" "[LQuarterMasks$Grid;" ∈ wsX5_turn := List.mem_of_getElem? (i := 2) rfl
theorem mX5_turn_w3 : Cond.fieldLink RX5 33 "QuarterMasks" "spare" "LQuarterMasks$Grid;" ∈ wsX5_turn := List.mem_of_getElem? (i := 3) rfl
def wx_Qm_turn_75 (chM : IA) (chR : IA) (chN : Int32) (chK : Int32) (mk : Nat → IA) (a3 : Int32) (Q : Int32 → IA → IA → Int32 → Int32 → IA → IA → (Nat → IA) → Prop) (x4_2 : Int32) (md_2 : IA) (sp_2 : IA) : Prop :=
  wp_Qm_become chM chR chN chK md_2 mk a3 (fun r_4 m_chM_1 m_chR_1 m_chN_1 m_chK_1 m_mk_1 => Q r_4 m_chM_1 m_chR_1 m_chN_1 m_chK_1 md_2 sp_2 m_mk_1)
def wl_Qm_turn_41 (a2 : Int32) (Kx_1 : Int32 → IA → IA → Prop) : Nat → Int32 → IA → IA → Prop
  | 0, _, _, _ => False
  | n + 1, x4_1, md_1, sp_1 => (a2 ≤ x4_1 → (Kx_1 x4_1 md_1 sp_1)) ∧ (¬ a2 ≤ x4_1 → (wp_Gr_takeTurnedRight sp_1 md_1 (fun m_rows_2 => wp_Gr_take md_1 m_rows_2 (fun m_rows_3 => (wl_Qm_turn_41 a2 Kx_1 n) (x4_1 + 1) m_rows_3 m_rows_2))))
def wp_Qm_turn (chM : IA) (chR : IA) (chN : Int32) (chK : Int32) (md : IA) (sp : IA) (mk : Nat → IA) (a1 : Int32) (a2 : Int32) (a3 : Int32) (Q : Int32 → IA → IA → Int32 → Int32 → IA → IA → (Nat → IA) → Prop) : Prop :=
  wp_Qm_isMask a1 (fun r_1 => (r_1 = 0 → (Q (-2) chM chR chN chK md sp mk)) ∧ (¬ r_1 = 0 → (wp_Qm_within a2 4 (fun r_2 => (r_2 = 0 → (Q (-2) chM chR chN chK md sp mk)) ∧ (¬ r_2 = 0 → (wp_Qm_isMask a3 (fun r_3 => (r_3 = 0 → (Q (-2) chM chR chN chK md sp mk)) ∧ (¬ r_3 = 0 → (vp_in a1 4 ∧ (wp_Gr_take md (mk a1.toNatClampNeg) (fun m_rows_1 => ∃ k_1 : Nat, wl_Qm_turn_41 a2 (wx_Qm_turn_75 chM chR chN chK mk a3 Q) k_1 0 m_rows_1 sp)))))))))))
set_option maxHeartbeats 4000000 in
theorem c_Qm_turn (l : Launch) (G : GG) (ad : Nat → Nat) (lf : Int32) (chM : IA) (chR : IA) (chN : Int32) (chK : Int32) (md : IA) (sp : IA) (dS : IA) (dL : IA) (dR : IA) (dF : IA) (dP : Int32) (lS : IA) (lL : IA) (lR : IA) (lF : IA) (lP : Int32) (sS : IA) (sL : IA) (sT : Int32) (sD : Int32) (sM : Int32) (sX : Int32) (mk : Nat → IA) (si : Nat → IA) (sl : IA) (sf : IA) (ss : IA) (a1 : Int32) (a2 : Int32) (a3 : Int32) {Q : Int32 → IA → IA → Int32 → Int32 → IA → IA → (Nat → IA) → Prop} (h : wp_Qm_turn chM chR chN chK md sp mk a1 a2 a3 Q) : qm_MI l yX5_turn wsX5_turn rmX5_turn G [.ref (ad 0), .int a1, .int a2, .int a3] (cw G ad lf chM chR chN chK md sp dS dL dR dF dP lS lL lR lF lP sS sL sT sD sM sX mk si sl sf ss) (fun (r : Int32) (u : IA × IA × Int32 × Int32 × IA × IA × (Nat → IA)) => Q r u.1 u.2.1 u.2.2.1 u.2.2.2.1 u.2.2.2.2.1 u.2.2.2.2.2.1 u.2.2.2.2.2.2) (fun (u : IA × IA × Int32 × Int32 × IA × IA × (Nat → IA)) => cw G ad lf u.1 u.2.1 u.2.2.1 u.2.2.2.1 u.2.2.2.2.1 u.2.2.2.2.2.1 dS dL dR dF dP lS lL lR lF lP sS sL sT sD sM sX u.2.2.2.2.2.2 si sl sf ss) := by
  refine qm_mkI (cc := cX5_turn) (maxL := 5) (by decide) rfl (Nat.le_of_ble_eq_true rfl) ?_
  intro X C hret
  replace C : qm_C G 5 X cX5_turn wsX5_turn RX5 := C
  refine v_lv (lv' := [(0, .ref (ad 0)), (1, .int a1), (2, .int a2), (3, .int a3)]) rfl ?_
  unfold wp_Qm_turn at h
  refine v_iload_n C dX5_turn_0 rfl 1 rfl ?_
  refine v_callSi C (c_Qm_isMask l G (cw G ad lf chM chR chN chK md sp dS dL dR dF dP lS lL lR lF lP sS sL sT sD sM sX mk si sl sf ss) a1 h) gX5_turn_X5_isMask rfl kX5_isMask ⟨rfl, rfl⟩ ⟨Nat.le_of_ble_eq_true rfl, Nat.le_of_ble_eq_true rfl⟩ rfl (Nat.le_of_ble_eq_true rfl) dX5_turn_1 (fun r_1 _ h => ?_)
  try dsimp only at h
  refine v_if_eq C 22 dX5_turn_4 (by decide) (fun c_4 => ?_) (fun c_4 => ?_)
  · replace h := h.1 c_4
    refine v_bipush C (-2) dX5_turn_22 (by decide) ?_
    exact hret _ _ _ (-2) (chM, chR, chN, chK, md, sp, mk) h rfl dX5_turn_24
  · replace h := h.2 c_4
    refine v_iload_n C dX5_turn_7 rfl 2 rfl ?_
    refine v_iconst C 4 dX5_turn_8 (by decide) ?_
    refine v_callSi C (c_Qm_within l G (cw G ad lf chM chR chN chK md sp dS dL dR dF dP lS lL lR lF lP sS sL sT sD sM sX mk si sl sf ss) a2 4 h) gX5_turn_X5_within rfl kX5_within ⟨rfl, rfl⟩ ⟨Nat.le_of_ble_eq_true rfl, Nat.le_of_ble_eq_true rfl⟩ rfl (Nat.le_of_ble_eq_true rfl) dX5_turn_9 (fun r_2 _ h => ?_)
    try dsimp only at h
    refine v_if_eq C 22 dX5_turn_12 (by decide) (fun c_3 => ?_) (fun c_3 => ?_)
    · replace h := h.1 c_3
      refine v_bipush C (-2) dX5_turn_22 (by decide) ?_
      exact hret _ _ _ (-2) (chM, chR, chN, chK, md, sp, mk) h rfl dX5_turn_24
    · replace h := h.2 c_3
      refine v_iload_n C dX5_turn_15 rfl 3 rfl ?_
      refine v_callSi C (c_Qm_isMask l G (cw G ad lf chM chR chN chK md sp dS dL dR dF dP lS lL lR lF lP sS sL sT sD sM sX mk si sl sf ss) a3 h) gX5_turn_X5_isMask rfl kX5_isMask ⟨rfl, rfl⟩ ⟨Nat.le_of_ble_eq_true rfl, Nat.le_of_ble_eq_true rfl⟩ rfl (Nat.le_of_ble_eq_true rfl) dX5_turn_16 (fun r_3 _ h => ?_)
      try dsimp only at h
      refine v_if_ne C 25 dX5_turn_19 (by decide) (fun c_2 => ?_) (fun c_2 => ?_)
      · replace h := h.2 c_2
        refine v_aload_n C dX5_turn_25 rfl 0 rfl ?_
        refine v_get C iX5_turn_5 0 rfl rfl 3 (by decide) mX5_turn_w1 rfl rfl dX5_turn_26 ?_
        refine v_aload_n C dX5_turn_29 rfl 0 rfl ?_
        refine v_get C iX5_turn_5 0 rfl rfl 0 (by decide) mX5_turn_w2 rfl rfl dX5_turn_30 ?_
        refine v_iload_n C dX5_turn_33 rfl 1 rfl ?_
        obtain ⟨hin_1, h⟩ := h
        refine v_aldG C 1 rfl hin_1 rfl dX5_turn_34 ?_
        refine v_callVv C (c_Gr_take l G ad (fun y0 => cw G ad lf chM chR chN chK y0 sp dS dL dR dF dP lS lL lR lF lP sS sL sT sD sM sX mk si sl sf ss) 6 (26 + 2 * a1.toNatClampNeg) (cw_md G ad lf chM chR chN chK md sp dS dL dR dF dP lS lL lR lF lP sS sL sT sD sM sX mk si sl sf ss) (fun y0 => (cw_mkR G ad lf chM chR chN chK y0 sp dS dL dR dF dP lS lL lR lF lP sS sL sT sD sM sX mk si sl sf ss (qm_lt4 hin_1))) md h) 6 rfl rfl gX5_turn_X1_take rfl kX1_take ⟨rfl, rfl⟩ ⟨Nat.le_of_ble_eq_true rfl, Nat.le_of_ble_eq_true rfl⟩ rfl (Nat.le_of_ble_eq_true rfl) dX5_turn_35 (fun m_rows_1 h => ?_)
        try dsimp only at h
        refine v_world (ws' := cw G ad lf chM chR chN chK m_rows_1 sp dS dL dR dF dP lS lL lR lF lP sS sL sT sD sM sX mk si sl sf ss) rfl ?_
        refine v_iconst C 0 dX5_turn_38 (by decide) ?_
        refine v_istore C [(4, .int 0), (0, .ref (ad 0)), (1, .int a1), (2, .int a2), (3, .int a3)] dX5_turn_39 (by decide) rfl ?_
        have hx_1 : ∀ (x4_2 : Int32) (md_2 : IA) (sp_2 : IA), (wx_Qm_turn_75 chM chR chN chK mk a3 Q) x4_2 md_2 sp_2 → qm_V l G rmX5_turn 5 X (cw G ad lf chM chR chN chK md_2 sp_2 dS dL dR dF dP lS lL lR lF lP sS sL sT sD sM sX mk si sl sf ss) [(4, .int x4_2), (0, .ref (ad 0)), (1, .int a1), (2, .int a2), (3, .int a3)] 75 [] := by
          intro x4_2 md_2 sp_2 h
          unfold wx_Qm_turn_75 at h
          refine v_aload_n C dX5_turn_75 rfl 1 rfl ?_
          refine v_iload_n C dX5_turn_76 rfl 4 rfl ?_
          refine v_callVi C (c_Qm_become l G ad lf chM chR chN chK md_2 sp_2 dS dL dR dF dP lS lL lR lF lP sS sL sT sD sM sX mk si sl sf ss a3 h) 0 rfl rfl gX5_turn_X5_become rfl kX5_become ⟨rfl, rfl⟩ ⟨Nat.le_of_ble_eq_true rfl, Nat.le_of_ble_eq_true rfl⟩ rfl (Nat.le_of_ble_eq_true rfl) dX5_turn_77 (fun r_4 u h => ?_)
          obtain ⟨m_chM_1, m_chR_1, m_chN_1, m_chK_1, m_mk_1⟩ := u
          try dsimp only at h
          refine v_world (ws' := cw G ad lf m_chM_1 m_chR_1 m_chN_1 m_chK_1 md_2 sp_2 dS dL dR dF dP lS lL lR lF lP sS sL sT sD sM sX m_mk_1 si sl sf ss) rfl ?_
          exact hret _ _ _ r_4 (m_chM_1, m_chR_1, m_chN_1, m_chK_1, md_2, sp_2, m_mk_1) h rfl dX5_turn_80
        have hl_1 : ∀ n_1 : Nat, ∀ (x4_1 : Int32) (md_1 : IA) (sp_1 : IA), wl_Qm_turn_41 a2 (wx_Qm_turn_75 chM chR chN chK mk a3 Q) n_1 x4_1 md_1 sp_1 → qm_V l G rmX5_turn 5 X (cw G ad lf chM chR chN chK md_1 sp_1 dS dL dR dF dP lS lL lR lF lP sS sL sT sD sM sX mk si sl sf ss) [(4, .int x4_1), (0, .ref (ad 0)), (1, .int a1), (2, .int a2), (3, .int a3)] 41 [] := by
          intro n_1
          induction n_1 with
          | zero =>
            intro x4_1 md_1 sp_1 h
            exact False.elim h
          | succ n_1 ih_1 =>
            intro x4_1 md_1 sp_1 h
            rw [wl_Qm_turn_41] at h
            refine v_iload C dX5_turn_41 0 rfl ?_
            refine v_iload_n C dX5_turn_43 rfl 3 rfl ?_
            refine v_icmp_ge C 75 dX5_turn_44 (by decide) (fun c_1 => ?_) (fun c_1 => ?_)
            · replace h := h.1 c_1
              exact hx_1 x4_1 md_1 sp_1 h
            · replace h := h.2 c_1
              refine v_aload_n C dX5_turn_47 rfl 1 rfl ?_
              refine v_get C iX5_turn_5 0 rfl rfl 4 (by decide) mX5_turn_w3 rfl rfl dX5_turn_48 ?_
              refine v_aload_n C dX5_turn_51 rfl 1 rfl ?_
              refine v_get C iX5_turn_5 0 rfl rfl 3 (by decide) mX5_turn_w1 rfl rfl dX5_turn_52 ?_
              refine v_callVv C (c_Gr_takeTurnedRight l G ad (fun y0 => cw G ad lf chM chR chN chK md_1 y0 dS dL dR dF dP lS lL lR lF lP sS sL sT sD sM sX mk si sl sf ss) 8 6 (cw_sp G ad lf chM chR chN chK md_1 sp_1 dS dL dR dF dP lS lL lR lF lP sS sL sT sD sM sX mk si sl sf ss) (fun y0 => (cw_md G ad lf chM chR chN chK md_1 y0 dS dL dR dF dP lS lL lR lF lP sS sL sT sD sM sX mk si sl sf ss md_1).1) sp_1 h) 8 rfl rfl gX5_turn_X1_takeTurnedRight rfl kX1_takeTurnedRight ⟨rfl, rfl⟩ ⟨Nat.le_of_ble_eq_true rfl, Nat.le_of_ble_eq_true rfl⟩ rfl (Nat.le_of_ble_eq_true rfl) dX5_turn_55 (fun m_rows_2 h => ?_)
              try dsimp only at h
              refine v_world (ws' := cw G ad lf chM chR chN chK md_1 m_rows_2 dS dL dR dF dP lS lL lR lF lP sS sL sT sD sM sX mk si sl sf ss) rfl ?_
              refine v_aload_n C dX5_turn_58 rfl 1 rfl ?_
              refine v_get C iX5_turn_5 0 rfl rfl 3 (by decide) mX5_turn_w1 rfl rfl dX5_turn_59 ?_
              refine v_aload_n C dX5_turn_62 rfl 1 rfl ?_
              refine v_get C iX5_turn_5 0 rfl rfl 4 (by decide) mX5_turn_w3 rfl rfl dX5_turn_63 ?_
              refine v_callVv C (c_Gr_take l G ad (fun y0 => cw G ad lf chM chR chN chK y0 m_rows_2 dS dL dR dF dP lS lL lR lF lP sS sL sT sD sM sX mk si sl sf ss) 6 8 (cw_md G ad lf chM chR chN chK md_1 m_rows_2 dS dL dR dF dP lS lL lR lF lP sS sL sT sD sM sX mk si sl sf ss) (fun y0 => (cw_sp G ad lf chM chR chN chK y0 m_rows_2 dS dL dR dF dP lS lL lR lF lP sS sL sT sD sM sX mk si sl sf ss m_rows_2).1) md_1 h) 6 rfl rfl gX5_turn_X1_take rfl kX1_take ⟨rfl, rfl⟩ ⟨Nat.le_of_ble_eq_true rfl, Nat.le_of_ble_eq_true rfl⟩ rfl (Nat.le_of_ble_eq_true rfl) dX5_turn_66 (fun m_rows_3 h => ?_)
              try dsimp only at h
              refine v_world (ws' := cw G ad lf chM chR chN chK m_rows_3 m_rows_2 dS dL dR dF dP lS lL lR lF lP sS sL sT sD sM sX mk si sl sf ss) rfl ?_
              refine v_iinc C (x4_1 + 1) 0 [(4, .int (x4_1 + 1)), (0, .ref (ad 0)), (1, .int a1), (2, .int a2), (3, .int a3)] dX5_turn_69 rfl rfl (by decide) rfl ?_
              refine v_goto C 41 dX5_turn_72 (by decide) ?_
              exact ih_1 (x4_1 + 1) m_rows_3 m_rows_2 h
        obtain ⟨k_1, h⟩ := h
        exact hl_1 k_1 0 m_rows_1 sp h
      · replace h := h.1 c_2
        refine v_bipush C (-2) dX5_turn_22 (by decide) ?_
        exact hret _ _ _ (-2) (chM, chR, chN, chK, md, sp, mk) h rfl dX5_turn_24
-- QuarterMasks.band
def rmX5_band : Room := { frames := 4, cells := 0, slots := 0, locals := 107 }
theorem kX5_band : yX5_band.cls = RX5 ∧ yX5_band.cls ≠ "java/lang/invoke/MethodHandle" ∧ yX5_band.cls ≠ "java/lang/invoke/VarHandle" ∧ (parseMethodDescriptor yX5_band.desc).map (fun d => d.parameters.length) = some 3 := by decide +kernel
theorem mX5_band_w1 : Cond.fieldLink RX5 29 "QuarterMasks" "made" "LQuarterMasks$Grid;" ∈ wsX5_band := List.mem_of_getElem? (i := 1) rfl
theorem iX5_band_5 : ∀ w ∈ wsX50, w ∈ wsX5_band := fun w h => List.mem_cons_of_mem _ (List.mem_append_left _ (List.mem_append_left _ (List.mem_append_right _ h)))
theorem mX5_band_w2 : Cond.fieldLink RX5 11 "QuarterMasks" "masks" "[LQuarterMasks$Grid;" ∈ wsX5_band := List.mem_of_getElem? (i := 2) rfl
theorem mX5_band_w3 : Cond.fieldLink RX5 33 "QuarterMasks" "spare" "LQuarterMasks$Grid;" ∈ wsX5_band := List.mem_of_getElem? (i := 3) rfl
def wx_Qm_band_76 (chM : IA) (chR : IA) (chN : Int32) (chK : Int32) (mk : Nat → IA) (a3 : Int32) (Q : Int32 → IA → IA → Int32 → Int32 → IA → IA → (Nat → IA) → Prop) (x4_2 : Int32) (md_2 : IA) (sp_2 : IA) : Prop :=
  wp_Qm_become chM chR chN chK md_2 mk a3 (fun r_4 m_chM_1 m_chR_1 m_chN_1 m_chK_1 m_mk_1 => Q r_4 m_chM_1 m_chR_1 m_chN_1 m_chK_1 md_2 sp_2 m_mk_1)
def wl_Qm_band_42 (a2 : Int32) (Kx_1 : Int32 → IA → IA → Prop) : Nat → Int32 → IA → IA → Prop
  | 0, _, _, _ => False
  | n + 1, x4_1, md_1, sp_1 => (a2 ≤ x4_1 → (Kx_1 x4_1 md_1 sp_1)) ∧ (¬ a2 ≤ x4_1 → (wp_Gr_takeWidened sp_1 md_1 (fun m_rows_2 => wp_Gr_take md_1 m_rows_2 (fun m_rows_3 => (wl_Qm_band_42 a2 Kx_1 n) (x4_1 + 1) m_rows_3 m_rows_2))))
def wp_Qm_band (chM : IA) (chR : IA) (chN : Int32) (chK : Int32) (md : IA) (sp : IA) (mk : Nat → IA) (a1 : Int32) (a2 : Int32) (a3 : Int32) (Q : Int32 → IA → IA → Int32 → Int32 → IA → IA → (Nat → IA) → Prop) : Prop :=
  wp_Qm_isMask a1 (fun r_1 => (r_1 = 0 → (Q (-2) chM chR chN chK md sp mk)) ∧ (¬ r_1 = 0 → (wp_Qm_within a2 31 (fun r_2 => (r_2 = 0 → (Q (-2) chM chR chN chK md sp mk)) ∧ (¬ r_2 = 0 → (wp_Qm_isMask a3 (fun r_3 => (r_3 = 0 → (Q (-2) chM chR chN chK md sp mk)) ∧ (¬ r_3 = 0 → (vp_in a1 4 ∧ (wp_Gr_take md (mk a1.toNatClampNeg) (fun m_rows_1 => ∃ k_1 : Nat, wl_Qm_band_42 a2 (wx_Qm_band_76 chM chR chN chK mk a3 Q) k_1 0 m_rows_1 sp)))))))))))
set_option maxHeartbeats 4000000 in
theorem c_Qm_band (l : Launch) (G : GG) (ad : Nat → Nat) (lf : Int32) (chM : IA) (chR : IA) (chN : Int32) (chK : Int32) (md : IA) (sp : IA) (dS : IA) (dL : IA) (dR : IA) (dF : IA) (dP : Int32) (lS : IA) (lL : IA) (lR : IA) (lF : IA) (lP : Int32) (sS : IA) (sL : IA) (sT : Int32) (sD : Int32) (sM : Int32) (sX : Int32) (mk : Nat → IA) (si : Nat → IA) (sl : IA) (sf : IA) (ss : IA) (a1 : Int32) (a2 : Int32) (a3 : Int32) {Q : Int32 → IA → IA → Int32 → Int32 → IA → IA → (Nat → IA) → Prop} (h : wp_Qm_band chM chR chN chK md sp mk a1 a2 a3 Q) : qm_MI l yX5_band wsX5_band rmX5_band G [.ref (ad 0), .int a1, .int a2, .int a3] (cw G ad lf chM chR chN chK md sp dS dL dR dF dP lS lL lR lF lP sS sL sT sD sM sX mk si sl sf ss) (fun (r : Int32) (u : IA × IA × Int32 × Int32 × IA × IA × (Nat → IA)) => Q r u.1 u.2.1 u.2.2.1 u.2.2.2.1 u.2.2.2.2.1 u.2.2.2.2.2.1 u.2.2.2.2.2.2) (fun (u : IA × IA × Int32 × Int32 × IA × IA × (Nat → IA)) => cw G ad lf u.1 u.2.1 u.2.2.1 u.2.2.2.1 u.2.2.2.2.1 u.2.2.2.2.2.1 dS dL dR dF dP lS lL lR lF lP sS sL sT sD sM sX u.2.2.2.2.2.2 si sl sf ss) := by
  refine qm_mkI (cc := cX5_band) (maxL := 5) (by decide) rfl (Nat.le_of_ble_eq_true rfl) ?_
  intro X C hret
  replace C : qm_C G 5 X cX5_band wsX5_band RX5 := C
  refine v_lv (lv' := [(0, .ref (ad 0)), (1, .int a1), (2, .int a2), (3, .int a3)]) rfl ?_
  unfold wp_Qm_band at h
  refine v_iload_n C dX5_band_0 rfl 1 rfl ?_
  refine v_callSi C (c_Qm_isMask l G (cw G ad lf chM chR chN chK md sp dS dL dR dF dP lS lL lR lF lP sS sL sT sD sM sX mk si sl sf ss) a1 h) gX5_band_X5_isMask rfl kX5_isMask ⟨rfl, rfl⟩ ⟨Nat.le_of_ble_eq_true rfl, Nat.le_of_ble_eq_true rfl⟩ rfl (Nat.le_of_ble_eq_true rfl) dX5_band_1 (fun r_1 _ h => ?_)
  try dsimp only at h
  refine v_if_eq C 23 dX5_band_4 (by decide) (fun c_4 => ?_) (fun c_4 => ?_)
  · replace h := h.1 c_4
    refine v_bipush C (-2) dX5_band_23 (by decide) ?_
    exact hret _ _ _ (-2) (chM, chR, chN, chK, md, sp, mk) h rfl dX5_band_25
  · replace h := h.2 c_4
    refine v_iload_n C dX5_band_7 rfl 2 rfl ?_
    refine v_bipush C 31 dX5_band_8 (by decide) ?_
    refine v_callSi C (c_Qm_within l G (cw G ad lf chM chR chN chK md sp dS dL dR dF dP lS lL lR lF lP sS sL sT sD sM sX mk si sl sf ss) a2 31 h) gX5_band_X5_within rfl kX5_within ⟨rfl, rfl⟩ ⟨Nat.le_of_ble_eq_true rfl, Nat.le_of_ble_eq_true rfl⟩ rfl (Nat.le_of_ble_eq_true rfl) dX5_band_10 (fun r_2 _ h => ?_)
    try dsimp only at h
    refine v_if_eq C 23 dX5_band_13 (by decide) (fun c_3 => ?_) (fun c_3 => ?_)
    · replace h := h.1 c_3
      refine v_bipush C (-2) dX5_band_23 (by decide) ?_
      exact hret _ _ _ (-2) (chM, chR, chN, chK, md, sp, mk) h rfl dX5_band_25
    · replace h := h.2 c_3
      refine v_iload_n C dX5_band_16 rfl 3 rfl ?_
      refine v_callSi C (c_Qm_isMask l G (cw G ad lf chM chR chN chK md sp dS dL dR dF dP lS lL lR lF lP sS sL sT sD sM sX mk si sl sf ss) a3 h) gX5_band_X5_isMask rfl kX5_isMask ⟨rfl, rfl⟩ ⟨Nat.le_of_ble_eq_true rfl, Nat.le_of_ble_eq_true rfl⟩ rfl (Nat.le_of_ble_eq_true rfl) dX5_band_17 (fun r_3 _ h => ?_)
      try dsimp only at h
      refine v_if_ne C 26 dX5_band_20 (by decide) (fun c_2 => ?_) (fun c_2 => ?_)
      · replace h := h.2 c_2
        refine v_aload_n C dX5_band_26 rfl 0 rfl ?_
        refine v_get C iX5_band_5 0 rfl rfl 3 (by decide) mX5_band_w1 rfl rfl dX5_band_27 ?_
        refine v_aload_n C dX5_band_30 rfl 0 rfl ?_
        refine v_get C iX5_band_5 0 rfl rfl 0 (by decide) mX5_band_w2 rfl rfl dX5_band_31 ?_
        refine v_iload_n C dX5_band_34 rfl 1 rfl ?_
        obtain ⟨hin_1, h⟩ := h
        refine v_aldG C 1 rfl hin_1 rfl dX5_band_35 ?_
        refine v_callVv C (c_Gr_take l G ad (fun y0 => cw G ad lf chM chR chN chK y0 sp dS dL dR dF dP lS lL lR lF lP sS sL sT sD sM sX mk si sl sf ss) 6 (26 + 2 * a1.toNatClampNeg) (cw_md G ad lf chM chR chN chK md sp dS dL dR dF dP lS lL lR lF lP sS sL sT sD sM sX mk si sl sf ss) (fun y0 => (cw_mkR G ad lf chM chR chN chK y0 sp dS dL dR dF dP lS lL lR lF lP sS sL sT sD sM sX mk si sl sf ss (qm_lt4 hin_1))) md h) 6 rfl rfl gX5_band_X1_take rfl kX1_take ⟨rfl, rfl⟩ ⟨Nat.le_of_ble_eq_true rfl, Nat.le_of_ble_eq_true rfl⟩ rfl (Nat.le_of_ble_eq_true rfl) dX5_band_36 (fun m_rows_1 h => ?_)
        try dsimp only at h
        refine v_world (ws' := cw G ad lf chM chR chN chK m_rows_1 sp dS dL dR dF dP lS lL lR lF lP sS sL sT sD sM sX mk si sl sf ss) rfl ?_
        refine v_iconst C 0 dX5_band_39 (by decide) ?_
        refine v_istore C [(4, .int 0), (0, .ref (ad 0)), (1, .int a1), (2, .int a2), (3, .int a3)] dX5_band_40 (by decide) rfl ?_
        have hx_1 : ∀ (x4_2 : Int32) (md_2 : IA) (sp_2 : IA), (wx_Qm_band_76 chM chR chN chK mk a3 Q) x4_2 md_2 sp_2 → qm_V l G rmX5_band 5 X (cw G ad lf chM chR chN chK md_2 sp_2 dS dL dR dF dP lS lL lR lF lP sS sL sT sD sM sX mk si sl sf ss) [(4, .int x4_2), (0, .ref (ad 0)), (1, .int a1), (2, .int a2), (3, .int a3)] 76 [] := by
          intro x4_2 md_2 sp_2 h
          unfold wx_Qm_band_76 at h
          refine v_aload_n C dX5_band_76 rfl 1 rfl ?_
          refine v_iload_n C dX5_band_77 rfl 4 rfl ?_
          refine v_callVi C (c_Qm_become l G ad lf chM chR chN chK md_2 sp_2 dS dL dR dF dP lS lL lR lF lP sS sL sT sD sM sX mk si sl sf ss a3 h) 0 rfl rfl gX5_band_X5_become rfl kX5_become ⟨rfl, rfl⟩ ⟨Nat.le_of_ble_eq_true rfl, Nat.le_of_ble_eq_true rfl⟩ rfl (Nat.le_of_ble_eq_true rfl) dX5_band_78 (fun r_4 u h => ?_)
          obtain ⟨m_chM_1, m_chR_1, m_chN_1, m_chK_1, m_mk_1⟩ := u
          try dsimp only at h
          refine v_world (ws' := cw G ad lf m_chM_1 m_chR_1 m_chN_1 m_chK_1 md_2 sp_2 dS dL dR dF dP lS lL lR lF lP sS sL sT sD sM sX m_mk_1 si sl sf ss) rfl ?_
          exact hret _ _ _ r_4 (m_chM_1, m_chR_1, m_chN_1, m_chK_1, md_2, sp_2, m_mk_1) h rfl dX5_band_81
        have hl_1 : ∀ n_1 : Nat, ∀ (x4_1 : Int32) (md_1 : IA) (sp_1 : IA), wl_Qm_band_42 a2 (wx_Qm_band_76 chM chR chN chK mk a3 Q) n_1 x4_1 md_1 sp_1 → qm_V l G rmX5_band 5 X (cw G ad lf chM chR chN chK md_1 sp_1 dS dL dR dF dP lS lL lR lF lP sS sL sT sD sM sX mk si sl sf ss) [(4, .int x4_1), (0, .ref (ad 0)), (1, .int a1), (2, .int a2), (3, .int a3)] 42 [] := by
          intro n_1
          induction n_1 with
          | zero =>
            intro x4_1 md_1 sp_1 h
            exact False.elim h
          | succ n_1 ih_1 =>
            intro x4_1 md_1 sp_1 h
            rw [wl_Qm_band_42] at h
            refine v_iload C dX5_band_42 0 rfl ?_
            refine v_iload_n C dX5_band_44 rfl 3 rfl ?_
            refine v_icmp_ge C 76 dX5_band_45 (by decide) (fun c_1 => ?_) (fun c_1 => ?_)
            · replace h := h.1 c_1
              exact hx_1 x4_1 md_1 sp_1 h
            · replace h := h.2 c_1
              refine v_aload_n C dX5_band_48 rfl 1 rfl ?_
              refine v_get C iX5_band_5 0 rfl rfl 4 (by decide) mX5_band_w3 rfl rfl dX5_band_49 ?_
              refine v_aload_n C dX5_band_52 rfl 1 rfl ?_
              refine v_get C iX5_band_5 0 rfl rfl 3 (by decide) mX5_band_w1 rfl rfl dX5_band_53 ?_
              refine v_callVv C (c_Gr_takeWidened l G ad (fun y0 => cw G ad lf chM chR chN chK md_1 y0 dS dL dR dF dP lS lL lR lF lP sS sL sT sD sM sX mk si sl sf ss) 8 6 (cw_sp G ad lf chM chR chN chK md_1 sp_1 dS dL dR dF dP lS lL lR lF lP sS sL sT sD sM sX mk si sl sf ss) (fun y0 => (cw_md G ad lf chM chR chN chK md_1 y0 dS dL dR dF dP lS lL lR lF lP sS sL sT sD sM sX mk si sl sf ss md_1).1) sp_1 h) 8 rfl rfl gX5_band_X1_takeWidened rfl kX1_takeWidened ⟨rfl, rfl⟩ ⟨Nat.le_of_ble_eq_true rfl, Nat.le_of_ble_eq_true rfl⟩ rfl (Nat.le_of_ble_eq_true rfl) dX5_band_56 (fun m_rows_2 h => ?_)
              try dsimp only at h
              refine v_world (ws' := cw G ad lf chM chR chN chK md_1 m_rows_2 dS dL dR dF dP lS lL lR lF lP sS sL sT sD sM sX mk si sl sf ss) rfl ?_
              refine v_aload_n C dX5_band_59 rfl 1 rfl ?_
              refine v_get C iX5_band_5 0 rfl rfl 3 (by decide) mX5_band_w1 rfl rfl dX5_band_60 ?_
              refine v_aload_n C dX5_band_63 rfl 1 rfl ?_
              refine v_get C iX5_band_5 0 rfl rfl 4 (by decide) mX5_band_w3 rfl rfl dX5_band_64 ?_
              refine v_callVv C (c_Gr_take l G ad (fun y0 => cw G ad lf chM chR chN chK y0 m_rows_2 dS dL dR dF dP lS lL lR lF lP sS sL sT sD sM sX mk si sl sf ss) 6 8 (cw_md G ad lf chM chR chN chK md_1 m_rows_2 dS dL dR dF dP lS lL lR lF lP sS sL sT sD sM sX mk si sl sf ss) (fun y0 => (cw_sp G ad lf chM chR chN chK y0 m_rows_2 dS dL dR dF dP lS lL lR lF lP sS sL sT sD sM sX mk si sl sf ss m_rows_2).1) md_1 h) 6 rfl rfl gX5_band_X1_take rfl kX1_take ⟨rfl, rfl⟩ ⟨Nat.le_of_ble_eq_true rfl, Nat.le_of_ble_eq_true rfl⟩ rfl (Nat.le_of_ble_eq_true rfl) dX5_band_67 (fun m_rows_3 h => ?_)
              try dsimp only at h
              refine v_world (ws' := cw G ad lf chM chR chN chK m_rows_3 m_rows_2 dS dL dR dF dP lS lL lR lF lP sS sL sT sD sM sX mk si sl sf ss) rfl ?_
              refine v_iinc C (x4_1 + 1) 0 [(4, .int (x4_1 + 1)), (0, .ref (ad 0)), (1, .int a1), (2, .int a2), (3, .int a3)] dX5_band_70 rfl rfl (by decide) rfl ?_
              refine v_goto C 42 dX5_band_73 (by decide) ?_
              exact ih_1 (x4_1 + 1) m_rows_3 m_rows_2 h
        obtain ⟨k_1, h⟩ := h
        exact hl_1 k_1 0 m_rows_1 sp h
      · replace h := h.1 c_2
        refine v_bipush C (-2) dX5_band_23 (by decide) ?_
        exact hret _ _ _ (-2) (chM, chR, chN, chK, md, sp, mk) h rfl dX5_band_25
-- QuarterMasks.pick
def rmX5_pick : Room := { frames := 5, cells := 0, slots := 0, locals := 132 }
theorem kX5_pick : yX5_pick.cls = RX5 ∧ yX5_pick.cls ≠ "java/lang/invoke/MethodHandle" ∧ yX5_pick.cls ≠ "java/lang/invoke/VarHandle" ∧ (parseMethodDescriptor yX5_pick.desc).map (fun d => d.parameters.length) = some 4 := by decide +kernel
theorem mX5_pick_w1 : Cond.fieldLink RX5 39 "QuarterMasks" "darkParts" "LQuarterMasks$Parts;" ∈ wsX5_pick := List.mem_of_getElem? (i := 1) rfl
theorem iX5_pick_5 : ∀ w ∈ wsX50, w ∈ wsX5_pick := fun w h => List.mem_cons_of_mem _ (List.mem_append_left _ (List.mem_append_left _ (List.mem_append_left _ (List.mem_append_right _ h))))
theorem mX5_pick_w2 : Cond.fieldLink RX5 11 "QuarterMasks" "masks" "[LQuarterMasks$Grid;" ∈ wsX5_pick := List.mem_of_getElem? (i := 2) rfl
theorem mX5_pick_w3 : Cond.fieldLink RX5 29 "QuarterMasks" "made" "LQuarterMasks$Grid;" ∈ wsX5_pick := List.mem_of_getElem? (i := 3) rfl
def wx_Qm_pick_95 (chM : IA) (chR : IA) (chN : Int32) (chK : Int32) (mk : Nat → IA) (a4 : Int32) (Q : Int32 → IA → IA → Int32 → Int32 → IA → IA → IA → IA → IA → Int32 → (Nat → IA) → Prop) (m_seen_1 : IA) (m_labels_1 : IA) (m_reached_1 : IA) (m_figures_1 : IA) (m_parts_1 : Int32) (x6_2 : Int32) (md_2 : IA) : Prop :=
  wp_Qm_become chM chR chN chK md_2 mk a4 (fun r_5 m_chM_1 m_chR_1 m_chN_1 m_chK_1 m_mk_1 => Q r_5 m_chM_1 m_chR_1 m_chN_1 m_chK_1 md_2 m_seen_1 m_labels_1 m_reached_1 m_figures_1 m_parts_1 m_mk_1)
def wl_Qm_pick_62 (m_labels_1 : IA) (r_4 : Int32) (Kx_1 : Int32 → IA → Prop) : Nat → Int32 → IA → Prop
  | 0, _, _ => False
  | n + 1, x6_1, md_1 => (16 ≤ x6_1 → (Kx_1 x6_1 md_1)) ∧ (¬ 16 ≤ x6_1 → (wp_Pa_rowOfPart m_labels_1 r_4 x6_1 (fun r_6 => wp_Gr_setRow md_1 x6_1 r_6 (fun m_rows_1 => (wl_Qm_pick_62 m_labels_1 r_4 Kx_1 n) (x6_1 + 1) m_rows_1))))
def wp_Qm_pick (chM : IA) (chR : IA) (chN : Int32) (chK : Int32) (md : IA) (dS : IA) (dL : IA) (dR : IA) (dF : IA) (dP : Int32) (mk : Nat → IA) (a1 : Int32) (a2 : Int32) (a3 : Int32) (a4 : Int32) (Q : Int32 → IA → IA → Int32 → Int32 → IA → IA → IA → IA → IA → Int32 → (Nat → IA) → Prop) : Prop :=
  wp_Qm_isMask a1 (fun r_1 => (r_1 = 0 → (Q (-2) chM chR chN chK md dS dL dR dF dP mk)) ∧ (¬ r_1 = 0 → (wp_Qm_isCell a2 a3 (fun r_2 => (r_2 = 0 → (Q (-2) chM chR chN chK md dS dL dR dF dP mk)) ∧ (¬ r_2 = 0 → (wp_Qm_isMask a4 (fun r_3 => (r_3 = 0 → (Q (-2) chM chR chN chK md dS dL dR dF dP mk)) ∧ (¬ r_3 = 0 → (vp_in a1 4 ∧ (wp_Pa_look dS dL dR dF dP (mk a1.toNatClampNeg) (fun m_seen_1 m_labels_1 m_reached_1 m_figures_1 m_parts_1 => wp_Pa_labelAt m_labels_1 a2 a3 (fun r_4 => (r_4 = (-1) → (Q (-3) chM chR chN chK md m_seen_1 m_labels_1 m_reached_1 m_figures_1 m_parts_1 mk)) ∧ (¬ r_4 = (-1) → (∃ k_1 : Nat, wl_Qm_pick_62 m_labels_1 r_4 (wx_Qm_pick_95 chM chR chN chK mk a4 Q m_seen_1 m_labels_1 m_reached_1 m_figures_1 m_parts_1) k_1 0 md))))))))))))))
set_option maxHeartbeats 4000000 in
theorem c_Qm_pick (l : Launch) (G : GG) (ad : Nat → Nat) (lf : Int32) (chM : IA) (chR : IA) (chN : Int32) (chK : Int32) (md : IA) (sp : IA) (dS : IA) (dL : IA) (dR : IA) (dF : IA) (dP : Int32) (lS : IA) (lL : IA) (lR : IA) (lF : IA) (lP : Int32) (sS : IA) (sL : IA) (sT : Int32) (sD : Int32) (sM : Int32) (sX : Int32) (mk : Nat → IA) (si : Nat → IA) (sl : IA) (sf : IA) (ss : IA) (a1 : Int32) (a2 : Int32) (a3 : Int32) (a4 : Int32) {Q : Int32 → IA → IA → Int32 → Int32 → IA → IA → IA → IA → IA → Int32 → (Nat → IA) → Prop} (h : wp_Qm_pick chM chR chN chK md dS dL dR dF dP mk a1 a2 a3 a4 Q) : qm_MI l yX5_pick wsX5_pick rmX5_pick G [.ref (ad 0), .int a1, .int a2, .int a3, .int a4] (cw G ad lf chM chR chN chK md sp dS dL dR dF dP lS lL lR lF lP sS sL sT sD sM sX mk si sl sf ss) (fun (r : Int32) (u : IA × IA × Int32 × Int32 × IA × IA × IA × IA × IA × Int32 × (Nat → IA)) => Q r u.1 u.2.1 u.2.2.1 u.2.2.2.1 u.2.2.2.2.1 u.2.2.2.2.2.1 u.2.2.2.2.2.2.1 u.2.2.2.2.2.2.2.1 u.2.2.2.2.2.2.2.2.1 u.2.2.2.2.2.2.2.2.2.1 u.2.2.2.2.2.2.2.2.2.2) (fun (u : IA × IA × Int32 × Int32 × IA × IA × IA × IA × IA × Int32 × (Nat → IA)) => cw G ad lf u.1 u.2.1 u.2.2.1 u.2.2.2.1 u.2.2.2.2.1 sp u.2.2.2.2.2.1 u.2.2.2.2.2.2.1 u.2.2.2.2.2.2.2.1 u.2.2.2.2.2.2.2.2.1 u.2.2.2.2.2.2.2.2.2.1 lS lL lR lF lP sS sL sT sD sM sX u.2.2.2.2.2.2.2.2.2.2 si sl sf ss) := by
  refine qm_mkI (cc := cX5_pick) (maxL := 7) (by decide) rfl (Nat.le_of_ble_eq_true rfl) ?_
  intro X C hret
  replace C : qm_C G 7 X cX5_pick wsX5_pick RX5 := C
  refine v_lv (lv' := [(0, .ref (ad 0)), (1, .int a1), (2, .int a2), (3, .int a3), (4, .int a4)]) rfl ?_
  unfold wp_Qm_pick at h
  refine v_iload_n C dX5_pick_0 rfl 1 rfl ?_
  refine v_callSi C (c_Qm_isMask l G (cw G ad lf chM chR chN chK md sp dS dL dR dF dP lS lL lR lF lP sS sL sT sD sM sX mk si sl sf ss) a1 h) gX5_pick_X5_isMask rfl kX5_isMask ⟨rfl, rfl⟩ ⟨Nat.le_of_ble_eq_true rfl, Nat.le_of_ble_eq_true rfl⟩ rfl (Nat.le_of_ble_eq_true rfl) dX5_pick_1 (fun r_1 _ h => ?_)
  try dsimp only at h
  refine v_if_eq C 23 dX5_pick_4 (by decide) (fun c_5 => ?_) (fun c_5 => ?_)
  · replace h := h.1 c_5
    refine v_bipush C (-2) dX5_pick_23 (by decide) ?_
    exact hret _ _ _ (-2) (chM, chR, chN, chK, md, dS, dL, dR, dF, dP, mk) h rfl dX5_pick_25
  · replace h := h.2 c_5
    refine v_iload_n C dX5_pick_7 rfl 2 rfl ?_
    refine v_iload_n C dX5_pick_8 rfl 3 rfl ?_
    refine v_callSi C (c_Qm_isCell l G (cw G ad lf chM chR chN chK md sp dS dL dR dF dP lS lL lR lF lP sS sL sT sD sM sX mk si sl sf ss) a2 a3 h) gX5_pick_X5_isCell rfl kX5_isCell ⟨rfl, rfl⟩ ⟨Nat.le_of_ble_eq_true rfl, Nat.le_of_ble_eq_true rfl⟩ rfl (Nat.le_of_ble_eq_true rfl) dX5_pick_9 (fun r_2 _ h => ?_)
    try dsimp only at h
    refine v_if_eq C 23 dX5_pick_12 (by decide) (fun c_4 => ?_) (fun c_4 => ?_)
    · replace h := h.1 c_4
      refine v_bipush C (-2) dX5_pick_23 (by decide) ?_
      exact hret _ _ _ (-2) (chM, chR, chN, chK, md, dS, dL, dR, dF, dP, mk) h rfl dX5_pick_25
    · replace h := h.2 c_4
      refine v_iload C dX5_pick_15 4 rfl ?_
      refine v_callSi C (c_Qm_isMask l G (cw G ad lf chM chR chN chK md sp dS dL dR dF dP lS lL lR lF lP sS sL sT sD sM sX mk si sl sf ss) a4 h) gX5_pick_X5_isMask rfl kX5_isMask ⟨rfl, rfl⟩ ⟨Nat.le_of_ble_eq_true rfl, Nat.le_of_ble_eq_true rfl⟩ rfl (Nat.le_of_ble_eq_true rfl) dX5_pick_17 (fun r_3 _ h => ?_)
      try dsimp only at h
      refine v_if_ne C 26 dX5_pick_20 (by decide) (fun c_3 => ?_) (fun c_3 => ?_)
      · replace h := h.2 c_3
        refine v_aload_n C dX5_pick_26 rfl 0 rfl ?_
        refine v_get C iX5_pick_5 0 rfl rfl 5 (by decide) mX5_pick_w1 rfl rfl dX5_pick_27 ?_
        refine v_aload_n C dX5_pick_30 rfl 0 rfl ?_
        refine v_get C iX5_pick_5 0 rfl rfl 0 (by decide) mX5_pick_w2 rfl rfl dX5_pick_31 ?_
        refine v_iload_n C dX5_pick_34 rfl 1 rfl ?_
        obtain ⟨hin_1, h⟩ := h
        refine v_aldG C 1 rfl hin_1 rfl dX5_pick_35 ?_
        refine v_callVv C (c_Pa_look l G ad (fun y0 y1 y2 y3 y4 => cw G ad lf chM chR chN chK md sp y0 y1 y2 y3 y4 lS lL lR lF lP sS sL sT sD sM sX mk si sl sf ss) 10 (26 + 2 * a1.toNatClampNeg) (cw_dp G ad lf chM chR chN chK md sp dS dL dR dF dP lS lL lR lF lP sS sL sT sD sM sX mk si sl sf ss) (fun y0 y1 y2 y3 y4 => (cw_mkR G ad lf chM chR chN chK md sp y0 y1 y2 y3 y4 lS lL lR lF lP sS sL sT sD sM sX mk si sl sf ss (qm_lt4 hin_1))) dS dL dR dF dP h) 10 rfl rfl gX5_pick_X2_look rfl kX2_look ⟨rfl, rfl⟩ ⟨Nat.le_of_ble_eq_true rfl, Nat.le_of_ble_eq_true rfl⟩ rfl (Nat.le_of_ble_eq_true rfl) dX5_pick_36 (fun u h => ?_)
        obtain ⟨m_seen_1, m_labels_1, m_reached_1, m_figures_1, m_parts_1⟩ := u
        try dsimp only at h
        refine v_world (ws' := cw G ad lf chM chR chN chK md sp m_seen_1 m_labels_1 m_reached_1 m_figures_1 m_parts_1 lS lL lR lF lP sS sL sT sD sM sX mk si sl sf ss) rfl ?_
        refine v_aload_n C dX5_pick_39 rfl 0 rfl ?_
        refine v_get C iX5_pick_5 0 rfl rfl 5 (by decide) mX5_pick_w1 rfl rfl dX5_pick_40 ?_
        refine v_iload_n C dX5_pick_43 rfl 2 rfl ?_
        refine v_iload_n C dX5_pick_44 rfl 3 rfl ?_
        refine v_callVi C (c_Pa_labelAt l G ad (cw G ad lf chM chR chN chK md sp m_seen_1 m_labels_1 m_reached_1 m_figures_1 m_parts_1 lS lL lR lF lP sS sL sT sD sM sX mk si sl sf ss) 10 (cw_dp G ad lf chM chR chN chK md sp m_seen_1 m_labels_1 m_reached_1 m_figures_1 m_parts_1 lS lL lR lF lP sS sL sT sD sM sX mk si sl sf ss m_seen_1 m_labels_1 m_reached_1 m_figures_1 m_parts_1).1  a2 a3 h) 10 rfl rfl gX5_pick_X2_labelAt rfl kX2_labelAt ⟨rfl, rfl⟩ ⟨Nat.le_of_ble_eq_true rfl, Nat.le_of_ble_eq_true rfl⟩ rfl (Nat.le_of_ble_eq_true rfl) dX5_pick_45 (fun r_4 _ h => ?_)
        try dsimp only at h
        refine v_istore C [(5, .int r_4), (0, .ref (ad 0)), (1, .int a1), (2, .int a2), (3, .int a3), (4, .int a4)] dX5_pick_48 (by decide) rfl ?_
        refine v_iload C dX5_pick_50 0 rfl ?_
        refine v_iconst C (-1) dX5_pick_52 (by decide) ?_
        refine v_icmp_ne C 59 dX5_pick_53 (by decide) (fun c_2 => ?_) (fun c_2 => ?_)
        · replace h := h.2 c_2
          refine v_iconst C 0 dX5_pick_59 (by decide) ?_
          refine v_istore C [(6, .int 0), (5, .int r_4), (0, .ref (ad 0)), (1, .int a1), (2, .int a2), (3, .int a3), (4, .int a4)] dX5_pick_60 (by decide) rfl ?_
          have hx_1 : ∀ (x6_2 : Int32) (md_2 : IA), (wx_Qm_pick_95 chM chR chN chK mk a4 Q m_seen_1 m_labels_1 m_reached_1 m_figures_1 m_parts_1) x6_2 md_2 → qm_V l G rmX5_pick 7 X (cw G ad lf chM chR chN chK md_2 sp m_seen_1 m_labels_1 m_reached_1 m_figures_1 m_parts_1 lS lL lR lF lP sS sL sT sD sM sX mk si sl sf ss) [(6, .int x6_2), (5, .int r_4), (0, .ref (ad 0)), (1, .int a1), (2, .int a2), (3, .int a3), (4, .int a4)] 95 [] := by
            intro x6_2 md_2 h
            unfold wx_Qm_pick_95 at h
            refine v_aload_n C dX5_pick_95 rfl 2 rfl ?_
            refine v_iload C dX5_pick_96 6 rfl ?_
            refine v_callVi C (c_Qm_become l G ad lf chM chR chN chK md_2 sp m_seen_1 m_labels_1 m_reached_1 m_figures_1 m_parts_1 lS lL lR lF lP sS sL sT sD sM sX mk si sl sf ss a4 h) 0 rfl rfl gX5_pick_X5_become rfl kX5_become ⟨rfl, rfl⟩ ⟨Nat.le_of_ble_eq_true rfl, Nat.le_of_ble_eq_true rfl⟩ rfl (Nat.le_of_ble_eq_true rfl) dX5_pick_98 (fun r_5 u h => ?_)
            obtain ⟨m_chM_1, m_chR_1, m_chN_1, m_chK_1, m_mk_1⟩ := u
            try dsimp only at h
            refine v_world (ws' := cw G ad lf m_chM_1 m_chR_1 m_chN_1 m_chK_1 md_2 sp m_seen_1 m_labels_1 m_reached_1 m_figures_1 m_parts_1 lS lL lR lF lP sS sL sT sD sM sX m_mk_1 si sl sf ss) rfl ?_
            exact hret _ _ _ r_5 (m_chM_1, m_chR_1, m_chN_1, m_chK_1, md_2, m_seen_1, m_labels_1, m_reached_1, m_figures_1, m_parts_1, m_mk_1) h rfl dX5_pick_101
          have hl_1 : ∀ n_1 : Nat, ∀ (x6_1 : Int32) (md_1 : IA), wl_Qm_pick_62 m_labels_1 r_4 (wx_Qm_pick_95 chM chR chN chK mk a4 Q m_seen_1 m_labels_1 m_reached_1 m_figures_1 m_parts_1) n_1 x6_1 md_1 → qm_V l G rmX5_pick 7 X (cw G ad lf chM chR chN chK md_1 sp m_seen_1 m_labels_1 m_reached_1 m_figures_1 m_parts_1 lS lL lR lF lP sS sL sT sD sM sX mk si sl sf ss) [(6, .int x6_1), (5, .int r_4), (0, .ref (ad 0)), (1, .int a1), (2, .int a2), (3, .int a3), (4, .int a4)] 62 [] := by
            intro n_1
            induction n_1 with
            | zero =>
              intro x6_1 md_1 h
              exact False.elim h
            | succ n_1 ih_1 =>
              intro x6_1 md_1 h
              rw [wl_Qm_pick_62] at h
              refine v_iload C dX5_pick_62 0 rfl ?_
              refine v_bipush C 16 dX5_pick_64 (by decide) ?_
              refine v_icmp_ge C 95 dX5_pick_66 (by decide) (fun c_1 => ?_) (fun c_1 => ?_)
              · replace h := h.1 c_1
                exact hx_1 x6_1 md_1 h
              · replace h := h.2 c_1
                refine v_aload_n C dX5_pick_69 rfl 2 rfl ?_
                refine v_get C iX5_pick_5 0 rfl rfl 3 (by decide) mX5_pick_w3 rfl rfl dX5_pick_70 ?_
                refine v_iload C dX5_pick_73 0 rfl ?_
                refine v_aload_n C dX5_pick_75 rfl 2 rfl ?_
                refine v_get C iX5_pick_5 0 rfl rfl 5 (by decide) mX5_pick_w1 rfl rfl dX5_pick_76 ?_
                refine v_iload C dX5_pick_79 1 rfl ?_
                refine v_iload C dX5_pick_81 0 rfl ?_
                refine v_callVi C (c_Pa_rowOfPart l G ad (cw G ad lf chM chR chN chK md_1 sp m_seen_1 m_labels_1 m_reached_1 m_figures_1 m_parts_1 lS lL lR lF lP sS sL sT sD sM sX mk si sl sf ss) 10 (cw_dp G ad lf chM chR chN chK md_1 sp m_seen_1 m_labels_1 m_reached_1 m_figures_1 m_parts_1 lS lL lR lF lP sS sL sT sD sM sX mk si sl sf ss m_seen_1 m_labels_1 m_reached_1 m_figures_1 m_parts_1).1  r_4 x6_1 h) 10 rfl rfl gX5_pick_X2_rowOfPart rfl kX2_rowOfPart ⟨rfl, rfl⟩ ⟨Nat.le_of_ble_eq_true rfl, Nat.le_of_ble_eq_true rfl⟩ rfl (Nat.le_of_ble_eq_true rfl) dX5_pick_83 (fun r_6 _ h => ?_)
                try dsimp only at h
                refine v_callVv C (c_Gr_setRow l G ad (fun y0 => cw G ad lf chM chR chN chK y0 sp m_seen_1 m_labels_1 m_reached_1 m_figures_1 m_parts_1 lS lL lR lF lP sS sL sT sD sM sX mk si sl sf ss) 6 (cw_md G ad lf chM chR chN chK md_1 sp m_seen_1 m_labels_1 m_reached_1 m_figures_1 m_parts_1 lS lL lR lF lP sS sL sT sD sM sX mk si sl sf ss) md_1 x6_1 r_6 h) 6 rfl rfl gX5_pick_X1_setRow rfl kX1_setRow ⟨rfl, rfl⟩ ⟨Nat.le_of_ble_eq_true rfl, Nat.le_of_ble_eq_true rfl⟩ rfl (Nat.le_of_ble_eq_true rfl) dX5_pick_86 (fun m_rows_1 h => ?_)
                try dsimp only at h
                refine v_world (ws' := cw G ad lf chM chR chN chK m_rows_1 sp m_seen_1 m_labels_1 m_reached_1 m_figures_1 m_parts_1 lS lL lR lF lP sS sL sT sD sM sX mk si sl sf ss) rfl ?_
                refine v_iinc C (x6_1 + 1) 0 [(6, .int (x6_1 + 1)), (5, .int r_4), (0, .ref (ad 0)), (1, .int a1), (2, .int a2), (3, .int a3), (4, .int a4)] dX5_pick_89 rfl rfl (by decide) rfl ?_
                refine v_goto C 62 dX5_pick_92 (by decide) ?_
                exact ih_1 (x6_1 + 1) m_rows_1 h
          obtain ⟨k_1, h⟩ := h
          exact hl_1 k_1 0 md h
        · replace h := h.1 c_2
          refine v_bipush C (-3) dX5_pick_56 (by decide) ?_
          exact hret _ _ _ (-3) (chM, chR, chN, chK, md, m_seen_1, m_labels_1, m_reached_1, m_figures_1, m_parts_1, mk) h rfl dX5_pick_58
      · replace h := h.1 c_3
        refine v_bipush C (-2) dX5_pick_23 (by decide) ?_
        exact hret _ _ _ (-2) (chM, chR, chN, chK, md, dS, dL, dR, dF, dP, mk) h rfl dX5_pick_25
-- QuarterMasks.read
def rmX5_read : Room := { frames := 10, cells := 0, slots := 0, locals := 284 }
theorem kX5_read : yX5_read.cls = RX5 ∧ yX5_read.cls ≠ "java/lang/invoke/MethodHandle" ∧ yX5_read.cls ≠ "java/lang/invoke/VarHandle" ∧ (parseMethodDescriptor yX5_read.desc).map (fun d => d.parameters.length) = some 2 := by decide +kernel
theorem mX5_read_w1 : Cond.fieldLink RX5 17 "QuarterMasks" "sheets" "[LQuarterMasks$Sheet;" ∈ wsX5_read := List.mem_of_getElem? (i := 1) rfl
theorem iX5_read_5 : ∀ w ∈ wsX50, w ∈ wsX5_read := fun w h => List.mem_cons_of_mem _ (List.mem_append_left _ (List.mem_append_left _ (List.mem_append_left _ (List.mem_append_right _ h))))
theorem iX5_read_3 : ∀ w ∈ wsX30, w ∈ wsX5_read := fun w h => List.mem_cons_of_mem _ (List.mem_append_left _ (List.mem_append_left _ (List.mem_append_right _ h)))
theorem mX5_read_w2 : Cond.fieldLink RX5 29 "QuarterMasks" "made" "LQuarterMasks$Grid;" ∈ wsX5_read := List.mem_of_getElem? (i := 2) rfl
def wp_Qm_read (lf : Int32) (chM : IA) (chR : IA) (chN : Int32) (chK : Int32) (md : IA) (mk : Nat → IA) (si : Nat → IA) (sl : IA) (sf : IA) (ss : IA) (a1 : Int32) (a2 : Int32) (Q : Int32 → Int32 → IA → IA → Int32 → Int32 → IA → (Nat → IA) → Prop) : Prop :=
  wp_Qm_isMask a1 (fun r_1 => (r_1 = 0 → (Q (-2) lf chM chR chN chK md mk)) ∧ (¬ r_1 = 0 → (wp_Qm_isSheet a2 (fun r_2 => (r_2 = 0 → (Q (-2) lf chM chR chN chK md mk)) ∧ (¬ r_2 = 0 → (vp_in a2 4 ∧ (((sl a2.toNatClampNeg) = 0 → (vp_in a2 4 ∧ (wp_Qm_readSquare 5 (si a2.toNatClampNeg) (sl a2.toNatClampNeg) (sf a2.toNatClampNeg) (ss a2.toNatClampNeg) md 0 0 0 16 (fun r_3 m_rows_1 => (r_3 = (-1) → (Q (-3) lf chM chR chN chK m_rows_1 mk)) ∧ (¬ r_3 = (-1) → (wp_Qm_become chM chR chN chK m_rows_1 mk a1 (fun r_4 m_chM_1 m_chR_1 m_chN_1 m_chK_1 m_mk_1 => Q r_3 lf m_chM_1 m_chR_1 m_chN_1 m_chK_1 m_rows_1 m_mk_1))))))) ∧ (¬ (sl a2.toNatClampNeg) = 0 → (wp_Qm_found 1 (fun r_5 m_lf_1 => Q r_5 m_lf_1 chM chR chN chK md mk))))))))))
set_option maxHeartbeats 4000000 in
theorem c_Qm_read (l : Launch) (G : GG) (ad : Nat → Nat) (lf : Int32) (chM : IA) (chR : IA) (chN : Int32) (chK : Int32) (md : IA) (sp : IA) (dS : IA) (dL : IA) (dR : IA) (dF : IA) (dP : Int32) (lS : IA) (lL : IA) (lR : IA) (lF : IA) (lP : Int32) (sS : IA) (sL : IA) (sT : Int32) (sD : Int32) (sM : Int32) (sX : Int32) (mk : Nat → IA) (si : Nat → IA) (sl : IA) (sf : IA) (ss : IA) (a1 : Int32) (a2 : Int32) {Q : Int32 → Int32 → IA → IA → Int32 → Int32 → IA → (Nat → IA) → Prop} (h : wp_Qm_read lf chM chR chN chK md mk si sl sf ss a1 a2 Q) : qm_MI l yX5_read wsX5_read rmX5_read G [.ref (ad 0), .int a1, .int a2] (cw G ad lf chM chR chN chK md sp dS dL dR dF dP lS lL lR lF lP sS sL sT sD sM sX mk si sl sf ss) (fun (r : Int32) (u : Int32 × IA × IA × Int32 × Int32 × IA × (Nat → IA)) => Q r u.1 u.2.1 u.2.2.1 u.2.2.2.1 u.2.2.2.2.1 u.2.2.2.2.2.1 u.2.2.2.2.2.2) (fun (u : Int32 × IA × IA × Int32 × Int32 × IA × (Nat → IA)) => cw G ad u.1 u.2.1 u.2.2.1 u.2.2.2.1 u.2.2.2.2.1 u.2.2.2.2.2.1 sp dS dL dR dF dP lS lL lR lF lP sS sL sT sD sM sX u.2.2.2.2.2.2 si sl sf ss) := by
  refine qm_mkI (cc := cX5_read) (maxL := 4) (by decide) rfl (Nat.le_of_ble_eq_true rfl) ?_
  intro X C hret
  replace C : qm_C G 4 X cX5_read wsX5_read RX5 := C
  refine v_lv (lv' := [(0, .ref (ad 0)), (1, .int a1), (2, .int a2)]) rfl ?_
  unfold wp_Qm_read at h
  refine v_iload_n C dX5_read_0 rfl 1 rfl ?_
  refine v_callSi C (c_Qm_isMask l G (cw G ad lf chM chR chN chK md sp dS dL dR dF dP lS lL lR lF lP sS sL sT sD sM sX mk si sl sf ss) a1 h) gX5_read_X5_isMask rfl kX5_isMask ⟨rfl, rfl⟩ ⟨Nat.le_of_ble_eq_true rfl, Nat.le_of_ble_eq_true rfl⟩ rfl (Nat.le_of_ble_eq_true rfl) dX5_read_1 (fun r_1 _ h => ?_)
  try dsimp only at h
  refine v_if_eq C 14 dX5_read_4 (by decide) (fun c_4 => ?_) (fun c_4 => ?_)
  · replace h := h.1 c_4
    refine v_bipush C (-2) dX5_read_14 (by decide) ?_
    exact hret _ _ _ (-2) (lf, chM, chR, chN, chK, md, mk) h rfl dX5_read_16
  · replace h := h.2 c_4
    refine v_iload_n C dX5_read_7 rfl 2 rfl ?_
    refine v_callSi C (c_Qm_isSheet l G (cw G ad lf chM chR chN chK md sp dS dL dR dF dP lS lL lR lF lP sS sL sT sD sM sX mk si sl sf ss) a2 h) gX5_read_X5_isSheet rfl kX5_isSheet ⟨rfl, rfl⟩ ⟨Nat.le_of_ble_eq_true rfl, Nat.le_of_ble_eq_true rfl⟩ rfl (Nat.le_of_ble_eq_true rfl) dX5_read_8 (fun r_2 _ h => ?_)
    try dsimp only at h
    refine v_if_ne C 17 dX5_read_11 (by decide) (fun c_3 => ?_) (fun c_3 => ?_)
    · replace h := h.2 c_3
      refine v_aload_n C dX5_read_17 rfl 0 rfl ?_
      refine v_get C iX5_read_5 0 rfl rfl 1 (by decide) mX5_read_w1 rfl rfl dX5_read_18 ?_
      refine v_iload_n C dX5_read_21 rfl 2 rfl ?_
      obtain ⟨hin_1, h⟩ := h
      refine v_aldS C 2 rfl hin_1 rfl dX5_read_22 ?_
      refine v_getN C iX5_read_3 (34 + 2 * a2.toNatClampNeg) (cw_shR G ad lf chM chR chN chK md sp dS dL dR dF dP lS lL lR lF lP sS sL sT sD sM sX mk si sl sf ss (qm_lt4 hin_1)).1 rfl 1 (by decide) (fun _ h => h.2.2.2.2.2.2.2.2.2.2.2.1) rfl rfl dX5_read_23 ?_
      refine v_if_eq C 35 dX5_read_26 (by decide) (fun c_2 => ?_) (fun c_2 => ?_)
      · replace h := h.1 c_2
        refine v_aload_n C dX5_read_35 rfl 0 rfl ?_
        refine v_get C iX5_read_5 0 rfl rfl 1 (by decide) mX5_read_w1 rfl rfl dX5_read_36 ?_
        refine v_iload_n C dX5_read_39 rfl 2 rfl ?_
        obtain ⟨hin_2, h⟩ := h
        refine v_aldS C 2 rfl hin_2 rfl dX5_read_40 ?_
        refine v_iconst C 0 dX5_read_41 (by decide) ?_
        refine v_aload_n C dX5_read_42 rfl 0 rfl ?_
        refine v_get C iX5_read_5 0 rfl rfl 3 (by decide) mX5_read_w2 rfl rfl dX5_read_43 ?_
        refine v_iconst C 0 dX5_read_46 (by decide) ?_
        refine v_iconst C 0 dX5_read_47 (by decide) ?_
        refine v_bipush C 16 dX5_read_48 (by decide) ?_
        refine v_callSi C (c_Qm_readSquare l G ad (fun y0 => cw G ad lf chM chR chN chK y0 sp dS dL dR dF dP lS lL lR lF lP sS sL sT sD sM sX mk si sl sf ss) (34 + 2 * a2.toNatClampNeg) 6 (fun y0 => (cw_shR G ad lf chM chR chN chK y0 sp dS dL dR dF dP lS lL lR lF lP sS sL sT sD sM sX mk si sl sf ss (qm_lt4 hin_2))) (cw_md G ad lf chM chR chN chK md sp dS dL dR dF dP lS lL lR lF lP sS sL sT sD sM sX mk si sl sf ss) 5 md 0 0 0 16 h) gX5_read_X5_readSquare rfl kX5_readSquare ⟨rfl, rfl⟩ ⟨Nat.le_of_ble_eq_true rfl, Nat.le_of_ble_eq_true rfl⟩ rfl (Nat.le_of_ble_eq_true rfl) dX5_read_50 (fun r_3 m_rows_1 h => ?_)
        try dsimp only at h
        refine v_world (ws' := cw G ad lf chM chR chN chK m_rows_1 sp dS dL dR dF dP lS lL lR lF lP sS sL sT sD sM sX mk si sl sf ss) rfl ?_
        refine v_istore_n C [(3, .int r_3), (0, .ref (ad 0)), (1, .int a1), (2, .int a2)] dX5_read_53 rfl (by decide) rfl ?_
        refine v_iload_n C dX5_read_54 rfl 0 rfl ?_
        refine v_iconst C (-1) dX5_read_55 (by decide) ?_
        refine v_icmp_ne C 62 dX5_read_56 (by decide) (fun c_1 => ?_) (fun c_1 => ?_)
        · replace h := h.2 c_1
          refine v_aload_n C dX5_read_62 rfl 1 rfl ?_
          refine v_iload_n C dX5_read_63 rfl 2 rfl ?_
          refine v_callVi C (c_Qm_become l G ad lf chM chR chN chK m_rows_1 sp dS dL dR dF dP lS lL lR lF lP sS sL sT sD sM sX mk si sl sf ss a1 h) 0 rfl rfl gX5_read_X5_become rfl kX5_become ⟨rfl, rfl⟩ ⟨Nat.le_of_ble_eq_true rfl, Nat.le_of_ble_eq_true rfl⟩ rfl (Nat.le_of_ble_eq_true rfl) dX5_read_64 (fun r_4 u h => ?_)
          obtain ⟨m_chM_1, m_chR_1, m_chN_1, m_chK_1, m_mk_1⟩ := u
          try dsimp only at h
          refine v_world (ws' := cw G ad lf m_chM_1 m_chR_1 m_chN_1 m_chK_1 m_rows_1 sp dS dL dR dF dP lS lL lR lF lP sS sL sT sD sM sX m_mk_1 si sl sf ss) rfl ?_
          refine v_pop C dX5_read_67 rfl ?_
          refine v_iload_n C dX5_read_68 rfl 0 rfl ?_
          exact hret _ _ _ r_3 (lf, m_chM_1, m_chR_1, m_chN_1, m_chK_1, m_rows_1, m_mk_1) h rfl dX5_read_69
        · replace h := h.1 c_1
          refine v_bipush C (-3) dX5_read_59 (by decide) ?_
          exact hret _ _ _ (-3) (lf, chM, chR, chN, chK, m_rows_1, mk) h rfl dX5_read_61
      · replace h := h.2 c_2
        refine v_aload_n C dX5_read_29 rfl 0 rfl ?_
        refine v_iconst C 1 dX5_read_30 (by decide) ?_
        refine v_callVi C (c_Qm_found l G ad lf chM chR chN chK md sp dS dL dR dF dP lS lL lR lF lP sS sL sT sD sM sX mk si sl sf ss 1 h) 0 rfl rfl gX5_read_X5_found rfl kX5_found ⟨rfl, rfl⟩ ⟨Nat.le_of_ble_eq_true rfl, Nat.le_of_ble_eq_true rfl⟩ rfl (Nat.le_of_ble_eq_true rfl) dX5_read_31 (fun r_5 m_lf_1 h => ?_)
        try dsimp only at h
        refine v_world (ws' := cw G ad m_lf_1 chM chR chN chK md sp dS dL dR dF dP lS lL lR lF lP sS sL sT sD sM sX mk si sl sf ss) rfl ?_
        exact hret _ _ _ r_5 (m_lf_1, chM, chR, chN, chK, md, mk) h rfl dX5_read_34
    · replace h := h.1 c_3
      refine v_bipush C (-2) dX5_read_14 (by decide) ?_
      exact hret _ _ _ (-2) (lf, chM, chR, chN, chK, md, mk) h rfl dX5_read_16
-- QuarterMasks.back
def rmX5_back : Room := { frames := 4, cells := 0, slots := 0, locals := 105 }
theorem kX5_back : yX5_back.cls = RX5 ∧ yX5_back.cls ≠ "java/lang/invoke/MethodHandle" ∧ yX5_back.cls ≠ "java/lang/invoke/VarHandle" ∧ (parseMethodDescriptor yX5_back.desc).map (fun d => d.parameters.length) = some 0 := by decide +kernel
theorem mX5_back_w1 : Cond.fieldLink RX5 24 "QuarterMasks" "changes" "LQuarterMasks$Changes;" ∈ wsX5_back := List.mem_of_getElem? (i := 1) rfl
theorem iX5_back_5 : ∀ w ∈ wsX50, w ∈ wsX5_back := fun w h => List.mem_cons_of_mem _ (List.mem_append_left _ (List.mem_append_left _ (List.mem_append_right _ h)))
theorem iX5_back_0 : ∀ w ∈ wsX00, w ∈ wsX5_back := fun w h => List.mem_cons_of_mem _ (List.mem_append_left _ (List.mem_append_right _ h))
theorem mX5_back_w2 : Cond.fieldLink RX5 29 "QuarterMasks" "made" "LQuarterMasks$Grid;" ∈ wsX5_back := List.mem_of_getElem? (i := 2) rfl
theorem mX5_back_w3 : Cond.fieldLink RX5 11 "QuarterMasks" "masks" "[LQuarterMasks$Grid;" ∈ wsX5_back := List.mem_of_getElem? (i := 3) rfl
def wp_Qm_back (chM : IA) (chR : IA) (chN : Int32) (chK : Int32) (md : IA) (mk : Nat → IA)  (Q : Int32 → Int32 → Int32 → IA → (Nat → IA) → Prop) : Prop :=
  (chK = 0 → (Q (-3) chN chK md mk)) ∧ (¬ chK = 0 → (wp_Ch_undo chM chR chN chK md (fun r_1 m_next_1 m_known_1 m_rows_1 => wp_Qm_isMask r_1 (fun r_2 => (r_2 = 0 → (Q m_known_1 m_next_1 m_known_1 m_rows_1 mk)) ∧ (¬ r_2 = 0 → (vp_in r_1 4 ∧ (wp_Gr_take (mk r_1.toNatClampNeg) m_rows_1 (fun m_rows_2 => Q m_known_1 m_next_1 m_known_1 m_rows_1 (va_up mk r_1.toNatClampNeg m_rows_2)))))))))
set_option maxHeartbeats 4000000 in
theorem c_Qm_back (l : Launch) (G : GG) (ad : Nat → Nat) (lf : Int32) (chM : IA) (chR : IA) (chN : Int32) (chK : Int32) (md : IA) (sp : IA) (dS : IA) (dL : IA) (dR : IA) (dF : IA) (dP : Int32) (lS : IA) (lL : IA) (lR : IA) (lF : IA) (lP : Int32) (sS : IA) (sL : IA) (sT : Int32) (sD : Int32) (sM : Int32) (sX : Int32) (mk : Nat → IA) (si : Nat → IA) (sl : IA) (sf : IA) (ss : IA)  {Q : Int32 → Int32 → Int32 → IA → (Nat → IA) → Prop} (h : wp_Qm_back chM chR chN chK md mk Q) : qm_MI l yX5_back wsX5_back rmX5_back G [.ref (ad 0)] (cw G ad lf chM chR chN chK md sp dS dL dR dF dP lS lL lR lF lP sS sL sT sD sM sX mk si sl sf ss) (fun (r : Int32) (u : Int32 × Int32 × IA × (Nat → IA)) => Q r u.1 u.2.1 u.2.2.1 u.2.2.2) (fun (u : Int32 × Int32 × IA × (Nat → IA)) => cw G ad lf chM chR u.1 u.2.1 u.2.2.1 sp dS dL dR dF dP lS lL lR lF lP sS sL sT sD sM sX u.2.2.2 si sl sf ss) := by
  refine qm_mkI (cc := cX5_back) (maxL := 2) (by decide) rfl (Nat.le_of_ble_eq_true rfl) ?_
  intro X C hret
  replace C : qm_C G 2 X cX5_back wsX5_back RX5 := C
  refine v_lv (lv' := [(0, .ref (ad 0))]) rfl ?_
  unfold wp_Qm_back at h
  refine v_aload_n C dX5_back_0 rfl 0 rfl ?_
  refine v_get C iX5_back_5 0 rfl rfl 2 (by decide) mX5_back_w1 rfl rfl dX5_back_1 ?_
  refine v_getN C iX5_back_0 3 rfl rfl 3 (by decide) (fun _ h => h.2.2.2.2.1) rfl rfl dX5_back_4 ?_
  refine v_if_ne C 13 dX5_back_7 (by decide) (fun c_2 => ?_) (fun c_2 => ?_)
  · replace h := h.2 c_2
    refine v_aload_n C dX5_back_13 rfl 0 rfl ?_
    refine v_get C iX5_back_5 0 rfl rfl 2 (by decide) mX5_back_w1 rfl rfl dX5_back_14 ?_
    refine v_aload_n C dX5_back_17 rfl 0 rfl ?_
    refine v_get C iX5_back_5 0 rfl rfl 3 (by decide) mX5_back_w2 rfl rfl dX5_back_18 ?_
    refine v_callVi C (c_Ch_undo l G ad (fun y0 y1 y2 y3 y4 => cw G ad lf y0 y1 y2 y3 y4 sp dS dL dR dF dP lS lL lR lF lP sS sL sT sD sM sX mk si sl sf ss) 3 6 (fun y4 => (cw_ch G ad lf chM chR chN chK y4 sp dS dL dR dF dP lS lL lR lF lP sS sL sT sD sM sX mk si sl sf ss)) (fun y0 y1 y2 y3 => (cw_md G ad lf y0 y1 y2 y3 md sp dS dL dR dF dP lS lL lR lF lP sS sL sT sD sM sX mk si sl sf ss)) chM chR chN chK md h) 3 rfl rfl gX5_back_X0_undo rfl kX0_undo ⟨rfl, rfl⟩ ⟨Nat.le_of_ble_eq_true rfl, Nat.le_of_ble_eq_true rfl⟩ rfl (Nat.le_of_ble_eq_true rfl) dX5_back_21 (fun r_1 u h => ?_)
    obtain ⟨m_next_1, m_known_1, m_rows_1⟩ := u
    try dsimp only at h
    refine v_world (ws' := cw G ad lf chM chR m_next_1 m_known_1 m_rows_1 sp dS dL dR dF dP lS lL lR lF lP sS sL sT sD sM sX mk si sl sf ss) rfl ?_
    refine v_istore_n C [(1, .int r_1), (0, .ref (ad 0))] dX5_back_24 rfl (by decide) rfl ?_
    refine v_iload_n C dX5_back_25 rfl 0 rfl ?_
    refine v_callSi C (c_Qm_isMask l G (cw G ad lf chM chR m_next_1 m_known_1 m_rows_1 sp dS dL dR dF dP lS lL lR lF lP sS sL sT sD sM sX mk si sl sf ss) r_1 h) gX5_back_X5_isMask rfl kX5_isMask ⟨rfl, rfl⟩ ⟨Nat.le_of_ble_eq_true rfl, Nat.le_of_ble_eq_true rfl⟩ rfl (Nat.le_of_ble_eq_true rfl) dX5_back_26 (fun r_2 _ h => ?_)
    try dsimp only at h
    refine v_if_eq C 45 dX5_back_29 (by decide) (fun c_1 => ?_) (fun c_1 => ?_)
    · replace h := h.1 c_1
      refine v_aload_n C dX5_back_45 rfl 1 rfl ?_
      refine v_get C iX5_back_5 0 rfl rfl 2 (by decide) mX5_back_w1 rfl rfl dX5_back_46 ?_
      refine v_getN C iX5_back_0 3 rfl rfl 3 (by decide) (fun _ h => h.2.2.2.2.1) rfl rfl dX5_back_49 ?_
      exact hret _ _ _ m_known_1 (m_next_1, m_known_1, m_rows_1, mk) h rfl dX5_back_52
    · replace h := h.2 c_1
      refine v_aload_n C dX5_back_32 rfl 1 rfl ?_
      refine v_get C iX5_back_5 0 rfl rfl 0 (by decide) mX5_back_w3 rfl rfl dX5_back_33 ?_
      refine v_iload_n C dX5_back_36 rfl 0 rfl ?_
      obtain ⟨hin_1, h⟩ := h
      refine v_aldG C 1 rfl hin_1 rfl dX5_back_37 ?_
      refine v_aload_n C dX5_back_38 rfl 1 rfl ?_
      refine v_get C iX5_back_5 0 rfl rfl 3 (by decide) mX5_back_w2 rfl rfl dX5_back_39 ?_
      refine v_world (ws' := cw G ad lf chM chR m_next_1 m_known_1 m_rows_1 sp dS dL dR dF dP lS lL lR lF lP sS sL sT sD sM sX (va_up mk r_1.toNatClampNeg (mk r_1.toNatClampNeg)) si sl sf ss) (by simp only [va_upI]) ?_
      refine v_callVv C (c_Gr_take l G ad (fun y0 => cw G ad lf chM chR m_next_1 m_known_1 m_rows_1 sp dS dL dR dF dP lS lL lR lF lP sS sL sT sD sM sX (va_up mk r_1.toNatClampNeg y0) si sl sf ss) (26 + 2 * r_1.toNatClampNeg) 6 (cw_mkW G ad lf chM chR m_next_1 m_known_1 m_rows_1 sp dS dL dR dF dP lS lL lR lF lP sS sL sT sD sM sX mk si sl sf ss (qm_lt4 hin_1)) (fun y0 => (cw_md G ad lf chM chR m_next_1 m_known_1 m_rows_1 sp dS dL dR dF dP lS lL lR lF lP sS sL sT sD sM sX (va_up mk r_1.toNatClampNeg y0) si sl sf ss m_rows_1).1) (mk r_1.toNatClampNeg) h) (26 + 2 * r_1.toNatClampNeg) (cw_mkR G ad lf chM chR m_next_1 m_known_1 m_rows_1 sp dS dL dR dF dP lS lL lR lF lP sS sL sT sD sM sX (va_up mk r_1.toNatClampNeg (mk r_1.toNatClampNeg)) si sl sf ss (qm_lt4 hin_1)).1 rfl gX5_back_X1_take rfl kX1_take ⟨rfl, rfl⟩ ⟨Nat.le_of_ble_eq_true rfl, Nat.le_of_ble_eq_true rfl⟩ rfl (Nat.le_of_ble_eq_true rfl) dX5_back_42 (fun m_rows_2 h => ?_)
      try dsimp only at h
      refine v_world (ws' := cw G ad lf chM chR m_next_1 m_known_1 m_rows_1 sp dS dL dR dF dP lS lL lR lF lP sS sL sT sD sM sX (va_up mk r_1.toNatClampNeg m_rows_2) si sl sf ss) (by simp only [va_upI]) ?_
      refine v_aload_n C dX5_back_45 rfl 1 rfl ?_
      refine v_get C iX5_back_5 0 rfl rfl 2 (by decide) mX5_back_w1 rfl rfl dX5_back_46 ?_
      refine v_getN C iX5_back_0 3 rfl rfl 3 (by decide) (fun _ h => h.2.2.2.2.1) rfl rfl dX5_back_49 ?_
      exact hret _ _ _ m_known_1 (m_next_1, m_known_1, m_rows_1, (va_up mk r_1.toNatClampNeg m_rows_2)) h rfl dX5_back_52
  · replace h := h.1 c_2
    refine v_bipush C (-3) dX5_back_10 (by decide) ?_
    exact hret _ _ _ (-3) (chN, chK, md, mk) h rfl dX5_back_12
-- QuarterMasks.cell
def rmX5_cell : Room := { frames := 3, cells := 0, slots := 0, locals := 82 }
theorem kX5_cell : yX5_cell.cls = RX5 ∧ yX5_cell.cls ≠ "java/lang/invoke/MethodHandle" ∧ yX5_cell.cls ≠ "java/lang/invoke/VarHandle" ∧ (parseMethodDescriptor yX5_cell.desc).map (fun d => d.parameters.length) = some 3 := by decide +kernel
theorem mX5_cell_w1 : Cond.fieldLink RX5 11 "QuarterMasks" "masks" "[LQuarterMasks$Grid;" ∈ wsX5_cell := List.mem_of_getElem? (i := 1) rfl
theorem iX5_cell_5 : ∀ w ∈ wsX50, w ∈ wsX5_cell := fun w h => List.mem_cons_of_mem _ (List.mem_append_left _ (List.mem_append_right _ h))
def wp_Qm_cell (mk : Nat → IA) (a1 : Int32) (a2 : Int32) (a3 : Int32) (Q : Int32 → Prop) : Prop :=
  wp_Qm_isMask a1 (fun r_1 => (r_1 = 0 → (Q (-2))) ∧ (¬ r_1 = 0 → (wp_Qm_isCell a2 a3 (fun r_2 => (r_2 = 0 → (Q (-2))) ∧ (¬ r_2 = 0 → (vp_in a1 4 ∧ (wp_Gr_isDark (mk a1.toNatClampNeg) a2 a3 (fun r_3 => (r_3 = 0 → (Q 0)) ∧ (¬ r_3 = 0 → (Q 1))))))))))
set_option maxHeartbeats 4000000 in
theorem c_Qm_cell (l : Launch) (G : GG) (ad : Nat → Nat) (lf : Int32) (chM : IA) (chR : IA) (chN : Int32) (chK : Int32) (md : IA) (sp : IA) (dS : IA) (dL : IA) (dR : IA) (dF : IA) (dP : Int32) (lS : IA) (lL : IA) (lR : IA) (lF : IA) (lP : Int32) (sS : IA) (sL : IA) (sT : Int32) (sD : Int32) (sM : Int32) (sX : Int32) (mk : Nat → IA) (si : Nat → IA) (sl : IA) (sf : IA) (ss : IA) (a1 : Int32) (a2 : Int32) (a3 : Int32) {Q : Int32 → Prop} (h : wp_Qm_cell mk a1 a2 a3 Q) : qm_MI l yX5_cell wsX5_cell rmX5_cell G [.ref (ad 0), .int a1, .int a2, .int a3] (cw G ad lf chM chR chN chK md sp dS dL dR dF dP lS lL lR lF lP sS sL sT sD sM sX mk si sl sf ss) (fun (r : Int32) (_ : Unit) => Q r) (fun (_ : Unit) => cw G ad lf chM chR chN chK md sp dS dL dR dF dP lS lL lR lF lP sS sL sT sD sM sX mk si sl sf ss) := by
  refine qm_mkI (cc := cX5_cell) (maxL := 4) (by decide) rfl (Nat.le_of_ble_eq_true rfl) ?_
  intro X C hret
  replace C : qm_C G 4 X cX5_cell wsX5_cell RX5 := C
  refine v_lv (lv' := [(0, .ref (ad 0)), (1, .int a1), (2, .int a2), (3, .int a3)]) rfl ?_
  unfold wp_Qm_cell at h
  refine v_iload_n C dX5_cell_0 rfl 1 rfl ?_
  refine v_callSi C (c_Qm_isMask l G (cw G ad lf chM chR chN chK md sp dS dL dR dF dP lS lL lR lF lP sS sL sT sD sM sX mk si sl sf ss) a1 h) gX5_cell_X5_isMask rfl kX5_isMask ⟨rfl, rfl⟩ ⟨Nat.le_of_ble_eq_true rfl, Nat.le_of_ble_eq_true rfl⟩ rfl (Nat.le_of_ble_eq_true rfl) dX5_cell_1 (fun r_1 _ h => ?_)
  try dsimp only at h
  refine v_if_eq C 15 dX5_cell_4 (by decide) (fun c_3 => ?_) (fun c_3 => ?_)
  · replace h := h.1 c_3
    refine v_bipush C (-2) dX5_cell_15 (by decide) ?_
    exact hret _ _ _ (-2) () h rfl dX5_cell_17
  · replace h := h.2 c_3
    refine v_iload_n C dX5_cell_7 rfl 2 rfl ?_
    refine v_iload_n C dX5_cell_8 rfl 3 rfl ?_
    refine v_callSi C (c_Qm_isCell l G (cw G ad lf chM chR chN chK md sp dS dL dR dF dP lS lL lR lF lP sS sL sT sD sM sX mk si sl sf ss) a2 a3 h) gX5_cell_X5_isCell rfl kX5_isCell ⟨rfl, rfl⟩ ⟨Nat.le_of_ble_eq_true rfl, Nat.le_of_ble_eq_true rfl⟩ rfl (Nat.le_of_ble_eq_true rfl) dX5_cell_9 (fun r_2 _ h => ?_)
    try dsimp only at h
    refine v_if_ne C 18 dX5_cell_12 (by decide) (fun c_2 => ?_) (fun c_2 => ?_)
    · replace h := h.2 c_2
      refine v_aload_n C dX5_cell_18 rfl 0 rfl ?_
      refine v_get C iX5_cell_5 0 rfl rfl 0 (by decide) mX5_cell_w1 rfl rfl dX5_cell_19 ?_
      refine v_iload_n C dX5_cell_22 rfl 1 rfl ?_
      obtain ⟨hin_1, h⟩ := h
      refine v_aldG C 1 rfl hin_1 rfl dX5_cell_23 ?_
      refine v_iload_n C dX5_cell_24 rfl 2 rfl ?_
      refine v_iload_n C dX5_cell_25 rfl 3 rfl ?_
      refine v_callVi C (c_Gr_isDark l G ad (cw G ad lf chM chR chN chK md sp dS dL dR dF dP lS lL lR lF lP sS sL sT sD sM sX mk si sl sf ss) (26 + 2 * a1.toNatClampNeg) (cw_mkR G ad lf chM chR chN chK md sp dS dL dR dF dP lS lL lR lF lP sS sL sT sD sM sX mk si sl sf ss (qm_lt4 hin_1))  a2 a3 h) (26 + 2 * a1.toNatClampNeg) (cw_mkR G ad lf chM chR chN chK md sp dS dL dR dF dP lS lL lR lF lP sS sL sT sD sM sX mk si sl sf ss (qm_lt4 hin_1)).1 rfl gX5_cell_X1_isDark rfl kX1_isDark ⟨rfl, rfl⟩ ⟨Nat.le_of_ble_eq_true rfl, Nat.le_of_ble_eq_true rfl⟩ rfl (Nat.le_of_ble_eq_true rfl) dX5_cell_26 (fun r_3 _ h => ?_)
      try dsimp only at h
      refine v_if_eq C 36 dX5_cell_29 (by decide) (fun c_1 => ?_) (fun c_1 => ?_)
      · replace h := h.1 c_1
        refine v_iconst C 0 dX5_cell_36 (by decide) ?_
        exact hret _ _ _ 0 () h rfl dX5_cell_37
      · replace h := h.2 c_1
        refine v_iconst C 1 dX5_cell_32 (by decide) ?_
        refine v_goto C 37 dX5_cell_33 (by decide) ?_
        exact hret _ _ _ 1 () h rfl dX5_cell_37
    · replace h := h.1 c_2
      refine v_bipush C (-2) dX5_cell_15 (by decide) ?_
      exact hret _ _ _ (-2) () h rfl dX5_cell_17
-- QuarterMasks.block
def rmX5_block : Room := { frames := 4, cells := 0, slots := 0, locals := 110 }
theorem kX5_block : yX5_block.cls = RX5 ∧ yX5_block.cls ≠ "java/lang/invoke/MethodHandle" ∧ yX5_block.cls ≠ "java/lang/invoke/VarHandle" ∧ (parseMethodDescriptor yX5_block.desc).map (fun d => d.parameters.length) = some 4 := by decide +kernel
theorem mX5_block_w1 : Cond.fieldLink RX5 11 "QuarterMasks" "masks" "[LQuarterMasks$Grid;" ∈ wsX5_block := List.mem_of_getElem? (i := 1) rfl
theorem iX5_block_5 : ∀ w ∈ wsX50, w ∈ wsX5_block := fun w h => List.mem_cons_of_mem _ (List.mem_append_left _ (List.mem_append_right _ h))
def wp_Qm_block (mk : Nat → IA) (a1 : Int32) (a2 : Int32) (a3 : Int32) (a4 : Int32) (Q : Int32 → Prop) : Prop :=
  wp_Qm_isMask a1 (fun r_1 => (r_1 = 0 → (Q (-2))) ∧ (¬ r_1 = 0 → (wp_Qm_isCell a2 a3 (fun r_2 => (r_2 = 0 → (Q (-2))) ∧ (¬ r_2 = 0 → (wp_Qm_within a4 3 (fun r_3 => (r_3 = 0 → (Q (-2))) ∧ (¬ r_3 = 0 → (vp_in a1 4 ∧ (wp_Gr_sideOfBlock (mk a1.toNatClampNeg) a2 a3 (fun r_4 => (a4 = 0 → (Q (a2 &&& (-r_4)))) ∧ (¬ a4 = 0 → ((a4 = 1 → (Q (a3 &&& (-r_4)))) ∧ (¬ a4 = 1 → (Q r_4)))))))))))))))
set_option maxHeartbeats 4000000 in
theorem c_Qm_block (l : Launch) (G : GG) (ad : Nat → Nat) (lf : Int32) (chM : IA) (chR : IA) (chN : Int32) (chK : Int32) (md : IA) (sp : IA) (dS : IA) (dL : IA) (dR : IA) (dF : IA) (dP : Int32) (lS : IA) (lL : IA) (lR : IA) (lF : IA) (lP : Int32) (sS : IA) (sL : IA) (sT : Int32) (sD : Int32) (sM : Int32) (sX : Int32) (mk : Nat → IA) (si : Nat → IA) (sl : IA) (sf : IA) (ss : IA) (a1 : Int32) (a2 : Int32) (a3 : Int32) (a4 : Int32) {Q : Int32 → Prop} (h : wp_Qm_block mk a1 a2 a3 a4 Q) : qm_MI l yX5_block wsX5_block rmX5_block G [.ref (ad 0), .int a1, .int a2, .int a3, .int a4] (cw G ad lf chM chR chN chK md sp dS dL dR dF dP lS lL lR lF lP sS sL sT sD sM sX mk si sl sf ss) (fun (r : Int32) (_ : Unit) => Q r) (fun (_ : Unit) => cw G ad lf chM chR chN chK md sp dS dL dR dF dP lS lL lR lF lP sS sL sT sD sM sX mk si sl sf ss) := by
  refine qm_mkI (cc := cX5_block) (maxL := 6) (by decide) rfl (Nat.le_of_ble_eq_true rfl) ?_
  intro X C hret
  replace C : qm_C G 6 X cX5_block wsX5_block RX5 := C
  refine v_lv (lv' := [(0, .ref (ad 0)), (1, .int a1), (2, .int a2), (3, .int a3), (4, .int a4)]) rfl ?_
  unfold wp_Qm_block at h
  refine v_iload_n C dX5_block_0 rfl 1 rfl ?_
  refine v_callSi C (c_Qm_isMask l G (cw G ad lf chM chR chN chK md sp dS dL dR dF dP lS lL lR lF lP sS sL sT sD sM sX mk si sl sf ss) a1 h) gX5_block_X5_isMask rfl kX5_isMask ⟨rfl, rfl⟩ ⟨Nat.le_of_ble_eq_true rfl, Nat.le_of_ble_eq_true rfl⟩ rfl (Nat.le_of_ble_eq_true rfl) dX5_block_1 (fun r_1 _ h => ?_)
  try dsimp only at h
  refine v_if_eq C 24 dX5_block_4 (by decide) (fun c_5 => ?_) (fun c_5 => ?_)
  · replace h := h.1 c_5
    refine v_bipush C (-2) dX5_block_24 (by decide) ?_
    exact hret _ _ _ (-2) () h rfl dX5_block_26
  · replace h := h.2 c_5
    refine v_iload_n C dX5_block_7 rfl 2 rfl ?_
    refine v_iload_n C dX5_block_8 rfl 3 rfl ?_
    refine v_callSi C (c_Qm_isCell l G (cw G ad lf chM chR chN chK md sp dS dL dR dF dP lS lL lR lF lP sS sL sT sD sM sX mk si sl sf ss) a2 a3 h) gX5_block_X5_isCell rfl kX5_isCell ⟨rfl, rfl⟩ ⟨Nat.le_of_ble_eq_true rfl, Nat.le_of_ble_eq_true rfl⟩ rfl (Nat.le_of_ble_eq_true rfl) dX5_block_9 (fun r_2 _ h => ?_)
    try dsimp only at h
    refine v_if_eq C 24 dX5_block_12 (by decide) (fun c_4 => ?_) (fun c_4 => ?_)
    · replace h := h.1 c_4
      refine v_bipush C (-2) dX5_block_24 (by decide) ?_
      exact hret _ _ _ (-2) () h rfl dX5_block_26
    · replace h := h.2 c_4
      refine v_iload C dX5_block_15 4 rfl ?_
      refine v_iconst C 3 dX5_block_17 (by decide) ?_
      refine v_callSi C (c_Qm_within l G (cw G ad lf chM chR chN chK md sp dS dL dR dF dP lS lL lR lF lP sS sL sT sD sM sX mk si sl sf ss) a4 3 h) gX5_block_X5_within rfl kX5_within ⟨rfl, rfl⟩ ⟨Nat.le_of_ble_eq_true rfl, Nat.le_of_ble_eq_true rfl⟩ rfl (Nat.le_of_ble_eq_true rfl) dX5_block_18 (fun r_3 _ h => ?_)
      try dsimp only at h
      refine v_if_ne C 27 dX5_block_21 (by decide) (fun c_3 => ?_) (fun c_3 => ?_)
      · replace h := h.2 c_3
        refine v_aload_n C dX5_block_27 rfl 0 rfl ?_
        refine v_get C iX5_block_5 0 rfl rfl 0 (by decide) mX5_block_w1 rfl rfl dX5_block_28 ?_
        refine v_iload_n C dX5_block_31 rfl 1 rfl ?_
        obtain ⟨hin_1, h⟩ := h
        refine v_aldG C 1 rfl hin_1 rfl dX5_block_32 ?_
        refine v_iload_n C dX5_block_33 rfl 2 rfl ?_
        refine v_iload_n C dX5_block_34 rfl 3 rfl ?_
        refine v_callVi C (c_Gr_sideOfBlock l G ad (cw G ad lf chM chR chN chK md sp dS dL dR dF dP lS lL lR lF lP sS sL sT sD sM sX mk si sl sf ss) (26 + 2 * a1.toNatClampNeg) (cw_mkR G ad lf chM chR chN chK md sp dS dL dR dF dP lS lL lR lF lP sS sL sT sD sM sX mk si sl sf ss (qm_lt4 hin_1))  a2 a3 h) (26 + 2 * a1.toNatClampNeg) (cw_mkR G ad lf chM chR chN chK md sp dS dL dR dF dP lS lL lR lF lP sS sL sT sD sM sX mk si sl sf ss (qm_lt4 hin_1)).1 rfl gX5_block_X1_sideOfBlock rfl kX1_sideOfBlock ⟨rfl, rfl⟩ ⟨Nat.le_of_ble_eq_true rfl, Nat.le_of_ble_eq_true rfl⟩ rfl (Nat.le_of_ble_eq_true rfl) dX5_block_35 (fun r_4 _ h => ?_)
        try dsimp only at h
        refine v_istore C [(5, .int r_4), (0, .ref (ad 0)), (1, .int a1), (2, .int a2), (3, .int a3), (4, .int a4)] dX5_block_38 (by decide) rfl ?_
        refine v_iload C dX5_block_40 5 rfl ?_
        by_cases c_1 : a4 = 0
        · replace h := h.1 c_1
          refine v_lsw (off := 26) C 68 dX5_block_42 (by decide) (by first | (rw [c_1]; done) | (rw [c_1]; rfl)) (by decide) ?_
          refine v_iload_n C dX5_block_68 rfl 3 rfl ?_
          refine v_iload C dX5_block_69 0 rfl ?_
          refine v_ineg C dX5_block_71 ?_
          refine v_iand C dX5_block_72 ?_
          exact hret _ _ _ (a2 &&& (-r_4)) () h rfl dX5_block_73
        · replace h := h.2 c_1
          by_cases c_2 : a4 = 1
          · replace h := h.1 c_2
            refine v_lsw (off := 32) C 74 dX5_block_42 (by decide) (by first | (rw [lv_osw c_1 (by decide), c_2]; done) | (rw [lv_osw c_1 (by decide), c_2]; rfl)) (by decide) ?_
            refine v_iload_n C dX5_block_74 rfl 4 rfl ?_
            refine v_iload C dX5_block_75 0 rfl ?_
            refine v_ineg C dX5_block_77 ?_
            refine v_iand C dX5_block_78 ?_
            exact hret _ _ _ (a3 &&& (-r_4)) () h rfl dX5_block_79
          · replace h := h.2 c_2
            refine v_lsw (off := 38) C 80 dX5_block_42 (by decide) (by first | (rw [lv_osw c_1 (by decide), lv_osw c_2 (by decide)]; done) | (rw [lv_osw c_1 (by decide), lv_osw c_2 (by decide)]; rfl)) (by decide) ?_
            refine v_iload C dX5_block_80 0 rfl ?_
            exact hret _ _ _ r_4 () h rfl dX5_block_82
      · replace h := h.1 c_3
        refine v_bipush C (-2) dX5_block_24 (by decide) ?_
        exact hret _ _ _ (-2) () h rfl dX5_block_26
-- QuarterMasks.blocks
def rmX5_blocks : Room := { frames := 10, cells := 0, slots := 0, locals := 270 }
theorem kX5_blocks : yX5_blocks.cls = RX5 ∧ yX5_blocks.cls ≠ "java/lang/invoke/MethodHandle" ∧ yX5_blocks.cls ≠ "java/lang/invoke/VarHandle" ∧ (parseMethodDescriptor yX5_blocks.desc).map (fun d => d.parameters.length) = some 2 := by decide +kernel
theorem mX5_blocks_w1 : Cond.fieldLink RX5 49 "QuarterMasks" "signs" "LQuarterMasks$Signs;" ∈ wsX5_blocks := List.mem_of_getElem? (i := 1) rfl
theorem iX5_blocks_5 : ∀ w ∈ wsX50, w ∈ wsX5_blocks := fun w h => List.mem_cons_of_mem _ (List.mem_append_left _ (List.mem_append_left _ (List.mem_append_right _ h)))
theorem mX5_blocks_w2 : Cond.fieldLink RX5 11 "QuarterMasks" "masks" "[LQuarterMasks$Grid;" ∈ wsX5_blocks := List.mem_of_getElem? (i := 2) rfl
theorem iX5_blocks_4 : ∀ w ∈ wsX40, w ∈ wsX5_blocks := fun w h => List.mem_cons_of_mem _ (List.mem_append_left _ (List.mem_append_right _ h))
def wp_Qm_blocks (sS : IA) (sL : IA) (sT : Int32) (sD : Int32) (sM : Int32) (sX : Int32) (mk : Nat → IA) (a1 : Int32) (a2 : Int32) (Q : Int32 → IA → IA → Int32 → Int32 → Int32 → Int32 → Prop) : Prop :=
  wp_Qm_isMask a1 (fun r_1 => (r_1 = 0 → (Q (-2) sS sL sT sD sM sX)) ∧ (¬ r_1 = 0 → (wp_Qm_within a2 4 (fun r_2 => (r_2 = 0 → (Q (-2) sS sL sT sD sM sX)) ∧ (¬ r_2 = 0 → (vp_in a1 4 ∧ (wp_Si_look sS sL sT sD sM sX (mk a1.toNatClampNeg) (fun m_seen_1 m_list_1 m_told_1 m_darkBlocks_1 m_mixed_1 m_deepest_1 => (a2 = 0 → (Q (m_told_1 - m_mixed_1) m_seen_1 m_list_1 m_told_1 m_darkBlocks_1 m_mixed_1 m_deepest_1)) ∧ (¬ a2 = 0 → ((a2 = 1 → (Q m_darkBlocks_1 m_seen_1 m_list_1 m_told_1 m_darkBlocks_1 m_mixed_1 m_deepest_1)) ∧ (¬ a2 = 1 → ((a2 = 2 → (Q m_mixed_1 m_seen_1 m_list_1 m_told_1 m_darkBlocks_1 m_mixed_1 m_deepest_1)) ∧ (¬ a2 = 2 → (Q m_deepest_1 m_seen_1 m_list_1 m_told_1 m_darkBlocks_1 m_mixed_1 m_deepest_1))))))))))))))
set_option maxHeartbeats 4000000 in
theorem c_Qm_blocks (l : Launch) (G : GG) (ad : Nat → Nat) (lf : Int32) (chM : IA) (chR : IA) (chN : Int32) (chK : Int32) (md : IA) (sp : IA) (dS : IA) (dL : IA) (dR : IA) (dF : IA) (dP : Int32) (lS : IA) (lL : IA) (lR : IA) (lF : IA) (lP : Int32) (sS : IA) (sL : IA) (sT : Int32) (sD : Int32) (sM : Int32) (sX : Int32) (mk : Nat → IA) (si : Nat → IA) (sl : IA) (sf : IA) (ss : IA) (a1 : Int32) (a2 : Int32) {Q : Int32 → IA → IA → Int32 → Int32 → Int32 → Int32 → Prop} (h : wp_Qm_blocks sS sL sT sD sM sX mk a1 a2 Q) : qm_MI l yX5_blocks wsX5_blocks rmX5_blocks G [.ref (ad 0), .int a1, .int a2] (cw G ad lf chM chR chN chK md sp dS dL dR dF dP lS lL lR lF lP sS sL sT sD sM sX mk si sl sf ss) (fun (r : Int32) (u : IA × IA × Int32 × Int32 × Int32 × Int32) => Q r u.1 u.2.1 u.2.2.1 u.2.2.2.1 u.2.2.2.2.1 u.2.2.2.2.2) (fun (u : IA × IA × Int32 × Int32 × Int32 × Int32) => cw G ad lf chM chR chN chK md sp dS dL dR dF dP lS lL lR lF lP u.1 u.2.1 u.2.2.1 u.2.2.2.1 u.2.2.2.2.1 u.2.2.2.2.2 mk si sl sf ss) := by
  refine qm_mkI (cc := cX5_blocks) (maxL := 3) (by decide) rfl (Nat.le_of_ble_eq_true rfl) ?_
  intro X C hret
  replace C : qm_C G 3 X cX5_blocks wsX5_blocks RX5 := C
  refine v_lv (lv' := [(0, .ref (ad 0)), (1, .int a1), (2, .int a2)]) rfl ?_
  unfold wp_Qm_blocks at h
  refine v_iload_n C dX5_blocks_0 rfl 1 rfl ?_
  refine v_callSi C (c_Qm_isMask l G (cw G ad lf chM chR chN chK md sp dS dL dR dF dP lS lL lR lF lP sS sL sT sD sM sX mk si sl sf ss) a1 h) gX5_blocks_X5_isMask rfl kX5_isMask ⟨rfl, rfl⟩ ⟨Nat.le_of_ble_eq_true rfl, Nat.le_of_ble_eq_true rfl⟩ rfl (Nat.le_of_ble_eq_true rfl) dX5_blocks_1 (fun r_1 _ h => ?_)
  try dsimp only at h
  refine v_if_eq C 15 dX5_blocks_4 (by decide) (fun c_5 => ?_) (fun c_5 => ?_)
  · replace h := h.1 c_5
    refine v_bipush C (-2) dX5_blocks_15 (by decide) ?_
    exact hret _ _ _ (-2) (sS, sL, sT, sD, sM, sX) h rfl dX5_blocks_17
  · replace h := h.2 c_5
    refine v_iload_n C dX5_blocks_7 rfl 2 rfl ?_
    refine v_iconst C 4 dX5_blocks_8 (by decide) ?_
    refine v_callSi C (c_Qm_within l G (cw G ad lf chM chR chN chK md sp dS dL dR dF dP lS lL lR lF lP sS sL sT sD sM sX mk si sl sf ss) a2 4 h) gX5_blocks_X5_within rfl kX5_within ⟨rfl, rfl⟩ ⟨Nat.le_of_ble_eq_true rfl, Nat.le_of_ble_eq_true rfl⟩ rfl (Nat.le_of_ble_eq_true rfl) dX5_blocks_9 (fun r_2 _ h => ?_)
    try dsimp only at h
    refine v_if_ne C 18 dX5_blocks_12 (by decide) (fun c_4 => ?_) (fun c_4 => ?_)
    · replace h := h.2 c_4
      refine v_aload_n C dX5_blocks_18 rfl 0 rfl ?_
      refine v_get C iX5_blocks_5 0 rfl rfl 7 (by decide) mX5_blocks_w1 rfl rfl dX5_blocks_19 ?_
      refine v_aload_n C dX5_blocks_22 rfl 0 rfl ?_
      refine v_get C iX5_blocks_5 0 rfl rfl 0 (by decide) mX5_blocks_w2 rfl rfl dX5_blocks_23 ?_
      refine v_iload_n C dX5_blocks_26 rfl 1 rfl ?_
      obtain ⟨hin_1, h⟩ := h
      refine v_aldG C 1 rfl hin_1 rfl dX5_blocks_27 ?_
      refine v_callVv C (c_Si_look l G ad (fun y0 y1 y2 y3 y4 y5 => cw G ad lf chM chR chN chK md sp dS dL dR dF dP lS lL lR lF lP y0 y1 y2 y3 y4 y5 mk si sl sf ss) 22 (26 + 2 * a1.toNatClampNeg) (cw_sg G ad lf chM chR chN chK md sp dS dL dR dF dP lS lL lR lF lP sS sL sT sD sM sX mk si sl sf ss) (fun y0 y1 y2 y3 y4 y5 => (cw_mkR G ad lf chM chR chN chK md sp dS dL dR dF dP lS lL lR lF lP y0 y1 y2 y3 y4 y5 mk si sl sf ss (qm_lt4 hin_1))) sS sL sT sD sM sX h) 22 rfl rfl gX5_blocks_X4_look rfl kX4_look ⟨rfl, rfl⟩ ⟨Nat.le_of_ble_eq_true rfl, Nat.le_of_ble_eq_true rfl⟩ rfl (Nat.le_of_ble_eq_true rfl) dX5_blocks_28 (fun u h => ?_)
      obtain ⟨m_seen_1, m_list_1, m_told_1, m_darkBlocks_1, m_mixed_1, m_deepest_1⟩ := u
      try dsimp only at h
      refine v_world (ws' := cw G ad lf chM chR chN chK md sp dS dL dR dF dP lS lL lR lF lP m_seen_1 m_list_1 m_told_1 m_darkBlocks_1 m_mixed_1 m_deepest_1 mk si sl sf ss) rfl ?_
      refine v_iload_n C dX5_blocks_31 rfl 2 rfl ?_
      by_cases c_1 : a2 = 0
      · replace h := h.1 c_1
        refine v_tin C 0 60 c_1 dX5_blocks_32 (by decide) rfl (by decide) ?_
        refine v_aload_n C dX5_blocks_60 rfl 0 rfl ?_
        refine v_get C iX5_blocks_5 0 rfl rfl 7 (by decide) mX5_blocks_w1 rfl rfl dX5_blocks_61 ?_
        refine v_getN C iX5_blocks_4 22 rfl rfl 2 (by decide) (fun _ h => h.2.2.2.2.2.2.1) rfl rfl dX5_blocks_64 ?_
        refine v_aload_n C dX5_blocks_67 rfl 0 rfl ?_
        refine v_get C iX5_blocks_5 0 rfl rfl 7 (by decide) mX5_blocks_w1 rfl rfl dX5_blocks_68 ?_
        refine v_getN C iX5_blocks_4 22 rfl rfl 4 (by decide) (fun _ h => h.2.2.2.2.2.2.2.2.1) rfl rfl dX5_blocks_71 ?_
        refine v_isub C dX5_blocks_74 ?_
        exact hret _ _ _ (m_told_1 - m_mixed_1) (m_seen_1, m_list_1, m_told_1, m_darkBlocks_1, m_mixed_1, m_deepest_1) h rfl dX5_blocks_75
      · replace h := h.2 c_1
        by_cases c_2 : a2 = 1
        · replace h := h.1 c_2
          refine v_tin C 1 76 c_2 dX5_blocks_32 (by decide) rfl (by decide) ?_
          refine v_aload_n C dX5_blocks_76 rfl 0 rfl ?_
          refine v_get C iX5_blocks_5 0 rfl rfl 7 (by decide) mX5_blocks_w1 rfl rfl dX5_blocks_77 ?_
          refine v_getN C iX5_blocks_4 22 rfl rfl 3 (by decide) (fun _ h => h.2.2.2.2.2.2.2.1) rfl rfl dX5_blocks_80 ?_
          exact hret _ _ _ m_darkBlocks_1 (m_seen_1, m_list_1, m_told_1, m_darkBlocks_1, m_mixed_1, m_deepest_1) h rfl dX5_blocks_83
        · replace h := h.2 c_2
          by_cases c_3 : a2 = 2
          · replace h := h.1 c_3
            refine v_tin C 2 84 c_3 dX5_blocks_32 (by decide) rfl (by decide) ?_
            refine v_aload_n C dX5_blocks_84 rfl 0 rfl ?_
            refine v_get C iX5_blocks_5 0 rfl rfl 7 (by decide) mX5_blocks_w1 rfl rfl dX5_blocks_85 ?_
            refine v_getN C iX5_blocks_4 22 rfl rfl 4 (by decide) (fun _ h => h.2.2.2.2.2.2.2.2.1) rfl rfl dX5_blocks_88 ?_
            exact hret _ _ _ m_mixed_1 (m_seen_1, m_list_1, m_told_1, m_darkBlocks_1, m_mixed_1, m_deepest_1) h rfl dX5_blocks_91
          · replace h := h.2 c_3
            have n32_0 := lv_neT c_1 (a := 0) (by decide)
            have n32_1 := lv_neT c_2 (a := 1) (by decide)
            have n32_2 := lv_neT c_3 (a := 2) (by decide)
            refine v_tout C 92 dX5_blocks_32 (by omega) (by decide) ?_
            refine v_aload_n C dX5_blocks_92 rfl 0 rfl ?_
            refine v_get C iX5_blocks_5 0 rfl rfl 7 (by decide) mX5_blocks_w1 rfl rfl dX5_blocks_93 ?_
            refine v_getN C iX5_blocks_4 22 rfl rfl 5 (by decide) (fun _ h => h.2.2.2.2.2.2.2.2.2.1) rfl rfl dX5_blocks_96 ?_
            exact hret _ _ _ m_deepest_1 (m_seen_1, m_list_1, m_told_1, m_darkBlocks_1, m_mixed_1, m_deepest_1) h rfl dX5_blocks_99
    · replace h := h.1 c_4
      refine v_bipush C (-2) dX5_blocks_15 (by decide) ?_
      exact hret _ _ _ (-2) (sS, sL, sT, sD, sM, sX) h rfl dX5_blocks_17
-- QuarterMasks.shown
def rmX5_shown : Room := { frames := 10, cells := 0, slots := 0, locals := 270 }
theorem kX5_shown : yX5_shown.cls = RX5 ∧ yX5_shown.cls ≠ "java/lang/invoke/MethodHandle" ∧ yX5_shown.cls ≠ "java/lang/invoke/VarHandle" ∧ (parseMethodDescriptor yX5_shown.desc).map (fun d => d.parameters.length) = some 2 := by decide +kernel
theorem mX5_shown_w1 : Cond.fieldLink RX5 49 "QuarterMasks" "signs" "LQuarterMasks$Signs;" ∈ wsX5_shown := List.mem_of_getElem? (i := 1) rfl
theorem iX5_shown_5 : ∀ w ∈ wsX50, w ∈ wsX5_shown := fun w h => List.mem_cons_of_mem _ (List.mem_append_left _ (List.mem_append_left _ (List.mem_append_right _ h)))
theorem mX5_shown_w2 : Cond.fieldLink RX5 11 "QuarterMasks" "masks" "[LQuarterMasks$Grid;" ∈ wsX5_shown := List.mem_of_getElem? (i := 2) rfl
theorem iX5_shown_4 : ∀ w ∈ wsX40, w ∈ wsX5_shown := fun w h => List.mem_cons_of_mem _ (List.mem_append_left _ (List.mem_append_right _ h))
def wj_Qm_shown_25 (sS : IA) (sL : IA) (sT : Int32) (sD : Int32) (sM : Int32) (sX : Int32) (mk : Nat → IA) (a1 : Int32) (a2 : Int32) (Q : Int32 → IA → IA → Int32 → Int32 → Int32 → Int32 → Prop) : Prop :=
  vp_in a1 4 ∧ (wp_Si_look sS sL sT sD sM sX (mk a1.toNatClampNeg) (fun m_seen_1 m_list_1 m_told_1 m_darkBlocks_1 m_mixed_1 m_deepest_1 => (a2 = (-1) → (Q m_told_1 m_seen_1 m_list_1 m_told_1 m_darkBlocks_1 m_mixed_1 m_deepest_1)) ∧ (¬ a2 = (-1) → (wp_Si_sign m_list_1 m_told_1 a2 (fun r_2 => Q r_2 m_seen_1 m_list_1 m_told_1 m_darkBlocks_1 m_mixed_1 m_deepest_1)))))
def wp_Qm_shown (sS : IA) (sL : IA) (sT : Int32) (sD : Int32) (sM : Int32) (sX : Int32) (mk : Nat → IA) (a1 : Int32) (a2 : Int32) (Q : Int32 → IA → IA → Int32 → Int32 → Int32 → Int32 → Prop) : Prop :=
  wp_Qm_isMask a1 (fun r_1 => (r_1 = 0 → (Q (-2) sS sL sT sD sM sX)) ∧ (¬ r_1 = 0 → (jn (wj_Qm_shown_25 sS sL sT sD sM sX mk a1 a2 Q) (fun K_1 : Prop => (a2 = (-1) → (K_1)) ∧ (¬ a2 = (-1) → (wp_Qm_within a2 341 (fun r_3 => (r_3 = 0 → (Q (-2) sS sL sT sD sM sX)) ∧ (¬ r_3 = 0 → (K_1)))))))))
set_option maxHeartbeats 4000000 in
theorem c_Qm_shown (l : Launch) (G : GG) (ad : Nat → Nat) (lf : Int32) (chM : IA) (chR : IA) (chN : Int32) (chK : Int32) (md : IA) (sp : IA) (dS : IA) (dL : IA) (dR : IA) (dF : IA) (dP : Int32) (lS : IA) (lL : IA) (lR : IA) (lF : IA) (lP : Int32) (sS : IA) (sL : IA) (sT : Int32) (sD : Int32) (sM : Int32) (sX : Int32) (mk : Nat → IA) (si : Nat → IA) (sl : IA) (sf : IA) (ss : IA) (a1 : Int32) (a2 : Int32) {Q : Int32 → IA → IA → Int32 → Int32 → Int32 → Int32 → Prop} (h : wp_Qm_shown sS sL sT sD sM sX mk a1 a2 Q) : qm_MI l yX5_shown wsX5_shown rmX5_shown G [.ref (ad 0), .int a1, .int a2] (cw G ad lf chM chR chN chK md sp dS dL dR dF dP lS lL lR lF lP sS sL sT sD sM sX mk si sl sf ss) (fun (r : Int32) (u : IA × IA × Int32 × Int32 × Int32 × Int32) => Q r u.1 u.2.1 u.2.2.1 u.2.2.2.1 u.2.2.2.2.1 u.2.2.2.2.2) (fun (u : IA × IA × Int32 × Int32 × Int32 × Int32) => cw G ad lf chM chR chN chK md sp dS dL dR dF dP lS lL lR lF lP u.1 u.2.1 u.2.2.1 u.2.2.2.1 u.2.2.2.2.1 u.2.2.2.2.2 mk si sl sf ss) := by
  refine qm_mkI (cc := cX5_shown) (maxL := 3) (by decide) rfl (Nat.le_of_ble_eq_true rfl) ?_
  intro X C hret
  replace C : qm_C G 3 X cX5_shown wsX5_shown RX5 := C
  refine v_lv (lv' := [(0, .ref (ad 0)), (1, .int a1), (2, .int a2)]) rfl ?_
  unfold wp_Qm_shown at h
  refine v_iload_n C dX5_shown_0 rfl 1 rfl ?_
  refine v_callSi C (c_Qm_isMask l G (cw G ad lf chM chR chN chK md sp dS dL dR dF dP lS lL lR lF lP sS sL sT sD sM sX mk si sl sf ss) a1 h) gX5_shown_X5_isMask rfl kX5_isMask ⟨rfl, rfl⟩ ⟨Nat.le_of_ble_eq_true rfl, Nat.le_of_ble_eq_true rfl⟩ rfl (Nat.le_of_ble_eq_true rfl) dX5_shown_1 (fun r_1 _ h => ?_)
  try dsimp only at h
  refine v_if_eq C 22 dX5_shown_4 (by decide) (fun c_4 => ?_) (fun c_4 => ?_)
  · replace h := h.1 c_4
    refine v_bipush C (-2) dX5_shown_22 (by decide) ?_
    exact hret _ _ _ (-2) (sS, sL, sT, sD, sM, sX) h rfl dX5_shown_24
  · replace h := h.2 c_4
    refine v_iload_n C dX5_shown_7 rfl 2 rfl ?_
    refine v_iconst C (-1) dX5_shown_8 (by decide) ?_
    have hJ_1 : (wj_Qm_shown_25 sS sL sT sD sM sX mk a1 a2 Q) → qm_V l G rmX5_shown 3 X (cw G ad lf chM chR chN chK md sp dS dL dR dF dP lS lL lR lF lP sS sL sT sD sM sX mk si sl sf ss) [(0, .ref (ad 0)), (1, .int a1), (2, .int a2)] 25 [] := by
      intro h
      unfold wj_Qm_shown_25 at h
      refine v_aload_n C dX5_shown_25 rfl 0 rfl ?_
      refine v_get C iX5_shown_5 0 rfl rfl 7 (by decide) mX5_shown_w1 rfl rfl dX5_shown_26 ?_
      refine v_aload_n C dX5_shown_29 rfl 0 rfl ?_
      refine v_get C iX5_shown_5 0 rfl rfl 0 (by decide) mX5_shown_w2 rfl rfl dX5_shown_30 ?_
      refine v_iload_n C dX5_shown_33 rfl 1 rfl ?_
      obtain ⟨hin_1, h⟩ := h
      refine v_aldG C 1 rfl hin_1 rfl dX5_shown_34 ?_
      refine v_callVv C (c_Si_look l G ad (fun y0 y1 y2 y3 y4 y5 => cw G ad lf chM chR chN chK md sp dS dL dR dF dP lS lL lR lF lP y0 y1 y2 y3 y4 y5 mk si sl sf ss) 22 (26 + 2 * a1.toNatClampNeg) (cw_sg G ad lf chM chR chN chK md sp dS dL dR dF dP lS lL lR lF lP sS sL sT sD sM sX mk si sl sf ss) (fun y0 y1 y2 y3 y4 y5 => (cw_mkR G ad lf chM chR chN chK md sp dS dL dR dF dP lS lL lR lF lP y0 y1 y2 y3 y4 y5 mk si sl sf ss (qm_lt4 hin_1))) sS sL sT sD sM sX h) 22 rfl rfl gX5_shown_X4_look rfl kX4_look ⟨rfl, rfl⟩ ⟨Nat.le_of_ble_eq_true rfl, Nat.le_of_ble_eq_true rfl⟩ rfl (Nat.le_of_ble_eq_true rfl) dX5_shown_35 (fun u h => ?_)
      obtain ⟨m_seen_1, m_list_1, m_told_1, m_darkBlocks_1, m_mixed_1, m_deepest_1⟩ := u
      try dsimp only at h
      refine v_world (ws' := cw G ad lf chM chR chN chK md sp dS dL dR dF dP lS lL lR lF lP m_seen_1 m_list_1 m_told_1 m_darkBlocks_1 m_mixed_1 m_deepest_1 mk si sl sf ss) rfl ?_
      refine v_iload_n C dX5_shown_38 rfl 2 rfl ?_
      refine v_iconst C (-1) dX5_shown_39 (by decide) ?_
      refine v_icmp_ne C 53 dX5_shown_40 (by decide) (fun c_1 => ?_) (fun c_1 => ?_)
      · replace h := h.2 c_1
        refine v_aload_n C dX5_shown_53 rfl 0 rfl ?_
        refine v_get C iX5_shown_5 0 rfl rfl 7 (by decide) mX5_shown_w1 rfl rfl dX5_shown_54 ?_
        refine v_iload_n C dX5_shown_57 rfl 2 rfl ?_
        refine v_callVi C (c_Si_sign l G ad (cw G ad lf chM chR chN chK md sp dS dL dR dF dP lS lL lR lF lP m_seen_1 m_list_1 m_told_1 m_darkBlocks_1 m_mixed_1 m_deepest_1 mk si sl sf ss) 22 (cw_sg G ad lf chM chR chN chK md sp dS dL dR dF dP lS lL lR lF lP m_seen_1 m_list_1 m_told_1 m_darkBlocks_1 m_mixed_1 m_deepest_1 mk si sl sf ss m_seen_1 m_list_1 m_told_1 m_darkBlocks_1 m_mixed_1 m_deepest_1).1  a2 h) 22 rfl rfl gX5_shown_X4_sign rfl kX4_sign ⟨rfl, rfl⟩ ⟨Nat.le_of_ble_eq_true rfl, Nat.le_of_ble_eq_true rfl⟩ rfl (Nat.le_of_ble_eq_true rfl) dX5_shown_58 (fun r_2 _ h => ?_)
        try dsimp only at h
        exact hret _ _ _ r_2 (m_seen_1, m_list_1, m_told_1, m_darkBlocks_1, m_mixed_1, m_deepest_1) h rfl dX5_shown_61
      · replace h := h.1 c_1
        refine v_aload_n C dX5_shown_43 rfl 0 rfl ?_
        refine v_get C iX5_shown_5 0 rfl rfl 7 (by decide) mX5_shown_w1 rfl rfl dX5_shown_44 ?_
        refine v_getN C iX5_shown_4 22 rfl rfl 2 (by decide) (fun _ h => h.2.2.2.2.2.2.1) rfl rfl dX5_shown_47 ?_
        refine v_goto C 61 dX5_shown_50 (by decide) ?_
        exact hret _ _ _ m_told_1 (m_seen_1, m_list_1, m_told_1, m_darkBlocks_1, m_mixed_1, m_deepest_1) h rfl dX5_shown_61
    replace h := jn_use h
    try dsimp only at h
    refine v_icmp_eq C 25 dX5_shown_9 (by decide) (fun c_3 => ?_) (fun c_3 => ?_)
    · replace h := h.1 c_3
      exact hJ_1 h
    · replace h := h.2 c_3
      refine v_iload_n C dX5_shown_12 rfl 2 rfl ?_
      refine v_sipush C 341 dX5_shown_13 (by decide) ?_
      refine v_callSi C (c_Qm_within l G (cw G ad lf chM chR chN chK md sp dS dL dR dF dP lS lL lR lF lP sS sL sT sD sM sX mk si sl sf ss) a2 341 h) gX5_shown_X5_within rfl kX5_within ⟨rfl, rfl⟩ ⟨Nat.le_of_ble_eq_true rfl, Nat.le_of_ble_eq_true rfl⟩ rfl (Nat.le_of_ble_eq_true rfl) dX5_shown_16 (fun r_3 _ h => ?_)
      try dsimp only at h
      refine v_if_ne C 25 dX5_shown_19 (by decide) (fun c_2 => ?_) (fun c_2 => ?_)
      · replace h := h.2 c_2
        exact hJ_1 h
      · replace h := h.1 c_2
        refine v_bipush C (-2) dX5_shown_22 (by decide) ?_
        exact hret _ _ _ (-2) (sS, sL, sT, sD, sM, sX) h rfl dX5_shown_24
-- QuarterMasks.all
def rmX5_all : Room := { frames := 5, cells := 0, slots := 0, locals := 132 }
theorem kX5_all : yX5_all.cls = RX5 ∧ yX5_all.cls ≠ "java/lang/invoke/MethodHandle" ∧ yX5_all.cls ≠ "java/lang/invoke/VarHandle" ∧ (parseMethodDescriptor yX5_all.desc).map (fun d => d.parameters.length) = some 2 := by decide +kernel
theorem mX5_all_w1 : Cond.fieldLink RX5 39 "QuarterMasks" "darkParts" "LQuarterMasks$Parts;" ∈ wsX5_all := List.mem_of_getElem? (i := 1) rfl
theorem iX5_all_5 : ∀ w ∈ wsX50, w ∈ wsX5_all := fun w h => List.mem_cons_of_mem _ (List.mem_append_left _ (List.mem_append_left _ (List.mem_append_right _ h)))
theorem mX5_all_w2 : Cond.fieldLink RX5 11 "QuarterMasks" "masks" "[LQuarterMasks$Grid;" ∈ wsX5_all := List.mem_of_getElem? (i := 2) rfl
theorem iX5_all_2 : ∀ w ∈ wsX20, w ∈ wsX5_all := fun w h => List.mem_cons_of_mem _ (List.mem_append_left _ (List.mem_append_right _ h))
theorem mX5_all_w3 : Cond.fieldLink RX5 33 "QuarterMasks" "spare" "LQuarterMasks$Grid;" ∈ wsX5_all := List.mem_of_getElem? (i := 3) rfl
theorem mX5_all_w4 : Cond.fieldLink RX5 43 "QuarterMasks" "lightParts" "LQuarterMasks$Parts;" ∈ wsX5_all := List.mem_of_getElem? (i := 4) rfl
def wp_Qm_all (sp : IA) (dS : IA) (dL : IA) (dR : IA) (dF : IA) (dP : Int32) (lS : IA) (lL : IA) (lR : IA) (lF : IA) (lP : Int32) (mk : Nat → IA) (a1 : Int32) (a2 : Int32) (Q : Int32 → IA → IA → IA → IA → IA → Int32 → IA → IA → IA → IA → Int32 → Prop) : Prop :=
  wp_Qm_isMask a1 (fun r_1 => (r_1 = 0 → (Q (-2) sp dS dL dR dF dP lS lL lR lF lP)) ∧ (¬ r_1 = 0 → (wp_Qm_within a2 4 (fun r_2 => (r_2 = 0 → (Q (-2) sp dS dL dR dF dP lS lL lR lF lP)) ∧ (¬ r_2 = 0 → ((a2 = 0 → (vp_in a1 4 ∧ (wp_Pa_look dS dL dR dF dP (mk a1.toNatClampNeg) (fun m_seen_1 m_labels_1 m_reached_1 m_figures_1 m_parts_1 => Q m_parts_1 sp m_seen_1 m_labels_1 m_reached_1 m_figures_1 m_parts_1 lS lL lR lF lP)))) ∧ (¬ a2 = 0 → ((a2 = 1 → (vp_in a1 4 ∧ (wp_Gr_border (mk a1.toNatClampNeg) (fun r_3 => Q r_3 sp dS dL dR dF dP lS lL lR lF lP)))) ∧ (¬ a2 = 1 → ((a2 = 2 → (vp_in a1 4 ∧ (wp_Gr_takeTurnedOver sp (mk a1.toNatClampNeg) (fun m_rows_1 => wp_Pa_look lS lL lR lF lP m_rows_1 (fun m_seen_2 m_labels_2 m_reached_2 m_figures_2 m_parts_2 => wp_Pa_partsOffTheEdge m_figures_2 m_parts_2 (fun r_4 => Q r_4 m_rows_1 dS dL dR dF dP m_seen_2 m_labels_2 m_reached_2 m_figures_2 m_parts_2)))))) ∧ (¬ a2 = 2 → (vp_in a1 4 ∧ (wp_Gr_darkCells (mk a1.toNatClampNeg) (fun r_5 => Q r_5 sp dS dL dR dF dP lS lL lR lF lP))))))))))))))
set_option maxHeartbeats 4000000 in
theorem c_Qm_all (l : Launch) (G : GG) (ad : Nat → Nat) (lf : Int32) (chM : IA) (chR : IA) (chN : Int32) (chK : Int32) (md : IA) (sp : IA) (dS : IA) (dL : IA) (dR : IA) (dF : IA) (dP : Int32) (lS : IA) (lL : IA) (lR : IA) (lF : IA) (lP : Int32) (sS : IA) (sL : IA) (sT : Int32) (sD : Int32) (sM : Int32) (sX : Int32) (mk : Nat → IA) (si : Nat → IA) (sl : IA) (sf : IA) (ss : IA) (a1 : Int32) (a2 : Int32) {Q : Int32 → IA → IA → IA → IA → IA → Int32 → IA → IA → IA → IA → Int32 → Prop} (h : wp_Qm_all sp dS dL dR dF dP lS lL lR lF lP mk a1 a2 Q) : qm_MI l yX5_all wsX5_all rmX5_all G [.ref (ad 0), .int a1, .int a2] (cw G ad lf chM chR chN chK md sp dS dL dR dF dP lS lL lR lF lP sS sL sT sD sM sX mk si sl sf ss) (fun (r : Int32) (u : IA × IA × IA × IA × IA × Int32 × IA × IA × IA × IA × Int32) => Q r u.1 u.2.1 u.2.2.1 u.2.2.2.1 u.2.2.2.2.1 u.2.2.2.2.2.1 u.2.2.2.2.2.2.1 u.2.2.2.2.2.2.2.1 u.2.2.2.2.2.2.2.2.1 u.2.2.2.2.2.2.2.2.2.1 u.2.2.2.2.2.2.2.2.2.2) (fun (u : IA × IA × IA × IA × IA × Int32 × IA × IA × IA × IA × Int32) => cw G ad lf chM chR chN chK md u.1 u.2.1 u.2.2.1 u.2.2.2.1 u.2.2.2.2.1 u.2.2.2.2.2.1 u.2.2.2.2.2.2.1 u.2.2.2.2.2.2.2.1 u.2.2.2.2.2.2.2.2.1 u.2.2.2.2.2.2.2.2.2.1 u.2.2.2.2.2.2.2.2.2.2 sS sL sT sD sM sX mk si sl sf ss) := by
  refine qm_mkI (cc := cX5_all) (maxL := 3) (by decide) rfl (Nat.le_of_ble_eq_true rfl) ?_
  intro X C hret
  replace C : qm_C G 3 X cX5_all wsX5_all RX5 := C
  refine v_lv (lv' := [(0, .ref (ad 0)), (1, .int a1), (2, .int a2)]) rfl ?_
  unfold wp_Qm_all at h
  refine v_iload_n C dX5_all_0 rfl 1 rfl ?_
  refine v_callSi C (c_Qm_isMask l G (cw G ad lf chM chR chN chK md sp dS dL dR dF dP lS lL lR lF lP sS sL sT sD sM sX mk si sl sf ss) a1 h) gX5_all_X5_isMask rfl kX5_isMask ⟨rfl, rfl⟩ ⟨Nat.le_of_ble_eq_true rfl, Nat.le_of_ble_eq_true rfl⟩ rfl (Nat.le_of_ble_eq_true rfl) dX5_all_1 (fun r_1 _ h => ?_)
  try dsimp only at h
  refine v_if_eq C 15 dX5_all_4 (by decide) (fun c_5 => ?_) (fun c_5 => ?_)
  · replace h := h.1 c_5
    refine v_bipush C (-2) dX5_all_15 (by decide) ?_
    exact hret _ _ _ (-2) (sp, dS, dL, dR, dF, dP, lS, lL, lR, lF, lP) h rfl dX5_all_17
  · replace h := h.2 c_5
    refine v_iload_n C dX5_all_7 rfl 2 rfl ?_
    refine v_iconst C 4 dX5_all_8 (by decide) ?_
    refine v_callSi C (c_Qm_within l G (cw G ad lf chM chR chN chK md sp dS dL dR dF dP lS lL lR lF lP sS sL sT sD sM sX mk si sl sf ss) a2 4 h) gX5_all_X5_within rfl kX5_within ⟨rfl, rfl⟩ ⟨Nat.le_of_ble_eq_true rfl, Nat.le_of_ble_eq_true rfl⟩ rfl (Nat.le_of_ble_eq_true rfl) dX5_all_9 (fun r_2 _ h => ?_)
    try dsimp only at h
    refine v_if_ne C 18 dX5_all_12 (by decide) (fun c_4 => ?_) (fun c_4 => ?_)
    · replace h := h.2 c_4
      refine v_iload_n C dX5_all_18 rfl 2 rfl ?_
      by_cases c_1 : a2 = 0
      · replace h := h.1 c_1
        refine v_tin C 0 44 c_1 dX5_all_19 (by decide) rfl (by decide) ?_
        refine v_aload_n C dX5_all_44 rfl 0 rfl ?_
        refine v_get C iX5_all_5 0 rfl rfl 5 (by decide) mX5_all_w1 rfl rfl dX5_all_45 ?_
        refine v_aload_n C dX5_all_48 rfl 0 rfl ?_
        refine v_get C iX5_all_5 0 rfl rfl 0 (by decide) mX5_all_w2 rfl rfl dX5_all_49 ?_
        refine v_iload_n C dX5_all_52 rfl 1 rfl ?_
        obtain ⟨hin_1, h⟩ := h
        refine v_aldG C 1 rfl hin_1 rfl dX5_all_53 ?_
        refine v_callVv C (c_Pa_look l G ad (fun y0 y1 y2 y3 y4 => cw G ad lf chM chR chN chK md sp y0 y1 y2 y3 y4 lS lL lR lF lP sS sL sT sD sM sX mk si sl sf ss) 10 (26 + 2 * a1.toNatClampNeg) (cw_dp G ad lf chM chR chN chK md sp dS dL dR dF dP lS lL lR lF lP sS sL sT sD sM sX mk si sl sf ss) (fun y0 y1 y2 y3 y4 => (cw_mkR G ad lf chM chR chN chK md sp y0 y1 y2 y3 y4 lS lL lR lF lP sS sL sT sD sM sX mk si sl sf ss (qm_lt4 hin_1))) dS dL dR dF dP h) 10 rfl rfl gX5_all_X2_look rfl kX2_look ⟨rfl, rfl⟩ ⟨Nat.le_of_ble_eq_true rfl, Nat.le_of_ble_eq_true rfl⟩ rfl (Nat.le_of_ble_eq_true rfl) dX5_all_54 (fun u h => ?_)
        obtain ⟨m_seen_1, m_labels_1, m_reached_1, m_figures_1, m_parts_1⟩ := u
        try dsimp only at h
        refine v_world (ws' := cw G ad lf chM chR chN chK md sp m_seen_1 m_labels_1 m_reached_1 m_figures_1 m_parts_1 lS lL lR lF lP sS sL sT sD sM sX mk si sl sf ss) rfl ?_
        refine v_aload_n C dX5_all_57 rfl 0 rfl ?_
        refine v_get C iX5_all_5 0 rfl rfl 5 (by decide) mX5_all_w1 rfl rfl dX5_all_58 ?_
        refine v_getN C iX5_all_2 10 rfl rfl 4 (by decide) (fun _ h => h.2.2.2.2.2.1) rfl rfl dX5_all_61 ?_
        exact hret _ _ _ m_parts_1 (sp, m_seen_1, m_labels_1, m_reached_1, m_figures_1, m_parts_1, lS, lL, lR, lF, lP) h rfl dX5_all_64
      · replace h := h.2 c_1
        by_cases c_2 : a2 = 1
        · replace h := h.1 c_2
          refine v_tin C 1 65 c_2 dX5_all_19 (by decide) rfl (by decide) ?_
          refine v_aload_n C dX5_all_65 rfl 0 rfl ?_
          refine v_get C iX5_all_5 0 rfl rfl 0 (by decide) mX5_all_w2 rfl rfl dX5_all_66 ?_
          refine v_iload_n C dX5_all_69 rfl 1 rfl ?_
          obtain ⟨hin_2, h⟩ := h
          refine v_aldG C 1 rfl hin_2 rfl dX5_all_70 ?_
          refine v_callVi C (c_Gr_border l G ad (cw G ad lf chM chR chN chK md sp dS dL dR dF dP lS lL lR lF lP sS sL sT sD sM sX mk si sl sf ss) (26 + 2 * a1.toNatClampNeg) (cw_mkR G ad lf chM chR chN chK md sp dS dL dR dF dP lS lL lR lF lP sS sL sT sD sM sX mk si sl sf ss (qm_lt4 hin_2))  h) (26 + 2 * a1.toNatClampNeg) (cw_mkR G ad lf chM chR chN chK md sp dS dL dR dF dP lS lL lR lF lP sS sL sT sD sM sX mk si sl sf ss (qm_lt4 hin_2)).1 rfl gX5_all_X1_border rfl kX1_border ⟨rfl, rfl⟩ ⟨Nat.le_of_ble_eq_true rfl, Nat.le_of_ble_eq_true rfl⟩ rfl (Nat.le_of_ble_eq_true rfl) dX5_all_71 (fun r_3 _ h => ?_)
          try dsimp only at h
          exact hret _ _ _ r_3 (sp, dS, dL, dR, dF, dP, lS, lL, lR, lF, lP) h rfl dX5_all_74
        · replace h := h.2 c_2
          by_cases c_3 : a2 = 2
          · replace h := h.1 c_3
            refine v_tin C 2 75 c_3 dX5_all_19 (by decide) rfl (by decide) ?_
            refine v_aload_n C dX5_all_75 rfl 0 rfl ?_
            refine v_get C iX5_all_5 0 rfl rfl 4 (by decide) mX5_all_w3 rfl rfl dX5_all_76 ?_
            refine v_aload_n C dX5_all_79 rfl 0 rfl ?_
            refine v_get C iX5_all_5 0 rfl rfl 0 (by decide) mX5_all_w2 rfl rfl dX5_all_80 ?_
            refine v_iload_n C dX5_all_83 rfl 1 rfl ?_
            obtain ⟨hin_3, h⟩ := h
            refine v_aldG C 1 rfl hin_3 rfl dX5_all_84 ?_
            refine v_callVv C (c_Gr_takeTurnedOver l G ad (fun y0 => cw G ad lf chM chR chN chK md y0 dS dL dR dF dP lS lL lR lF lP sS sL sT sD sM sX mk si sl sf ss) 8 (26 + 2 * a1.toNatClampNeg) (cw_sp G ad lf chM chR chN chK md sp dS dL dR dF dP lS lL lR lF lP sS sL sT sD sM sX mk si sl sf ss) (fun y0 => (cw_mkR G ad lf chM chR chN chK md y0 dS dL dR dF dP lS lL lR lF lP sS sL sT sD sM sX mk si sl sf ss (qm_lt4 hin_3))) sp h) 8 rfl rfl gX5_all_X1_takeTurnedOver rfl kX1_takeTurnedOver ⟨rfl, rfl⟩ ⟨Nat.le_of_ble_eq_true rfl, Nat.le_of_ble_eq_true rfl⟩ rfl (Nat.le_of_ble_eq_true rfl) dX5_all_85 (fun m_rows_1 h => ?_)
            try dsimp only at h
            refine v_world (ws' := cw G ad lf chM chR chN chK md m_rows_1 dS dL dR dF dP lS lL lR lF lP sS sL sT sD sM sX mk si sl sf ss) rfl ?_
            refine v_aload_n C dX5_all_88 rfl 0 rfl ?_
            refine v_get C iX5_all_5 0 rfl rfl 6 (by decide) mX5_all_w4 rfl rfl dX5_all_89 ?_
            refine v_aload_n C dX5_all_92 rfl 0 rfl ?_
            refine v_get C iX5_all_5 0 rfl rfl 4 (by decide) mX5_all_w3 rfl rfl dX5_all_93 ?_
            refine v_callVv C (c_Pa_look l G ad (fun y0 y1 y2 y3 y4 => cw G ad lf chM chR chN chK md m_rows_1 dS dL dR dF dP y0 y1 y2 y3 y4 sS sL sT sD sM sX mk si sl sf ss) 16 8 (cw_lp G ad lf chM chR chN chK md m_rows_1 dS dL dR dF dP lS lL lR lF lP sS sL sT sD sM sX mk si sl sf ss) (fun y0 y1 y2 y3 y4 => (cw_sp G ad lf chM chR chN chK md m_rows_1 dS dL dR dF dP y0 y1 y2 y3 y4 sS sL sT sD sM sX mk si sl sf ss m_rows_1).1) lS lL lR lF lP h) 16 rfl rfl gX5_all_X2_look rfl kX2_look ⟨rfl, rfl⟩ ⟨Nat.le_of_ble_eq_true rfl, Nat.le_of_ble_eq_true rfl⟩ rfl (Nat.le_of_ble_eq_true rfl) dX5_all_96 (fun u h => ?_)
            obtain ⟨m_seen_2, m_labels_2, m_reached_2, m_figures_2, m_parts_2⟩ := u
            try dsimp only at h
            refine v_world (ws' := cw G ad lf chM chR chN chK md m_rows_1 dS dL dR dF dP m_seen_2 m_labels_2 m_reached_2 m_figures_2 m_parts_2 sS sL sT sD sM sX mk si sl sf ss) rfl ?_
            refine v_aload_n C dX5_all_99 rfl 0 rfl ?_
            refine v_get C iX5_all_5 0 rfl rfl 6 (by decide) mX5_all_w4 rfl rfl dX5_all_100 ?_
            refine v_callVi C (c_Pa_partsOffTheEdge l G ad (cw G ad lf chM chR chN chK md m_rows_1 dS dL dR dF dP m_seen_2 m_labels_2 m_reached_2 m_figures_2 m_parts_2 sS sL sT sD sM sX mk si sl sf ss) 16 (cw_lp G ad lf chM chR chN chK md m_rows_1 dS dL dR dF dP m_seen_2 m_labels_2 m_reached_2 m_figures_2 m_parts_2 sS sL sT sD sM sX mk si sl sf ss m_seen_2 m_labels_2 m_reached_2 m_figures_2 m_parts_2).1  h) 16 rfl rfl gX5_all_X2_partsOffTheEdge rfl kX2_partsOffTheEdge ⟨rfl, rfl⟩ ⟨Nat.le_of_ble_eq_true rfl, Nat.le_of_ble_eq_true rfl⟩ rfl (Nat.le_of_ble_eq_true rfl) dX5_all_103 (fun r_4 _ h => ?_)
            try dsimp only at h
            exact hret _ _ _ r_4 (m_rows_1, dS, dL, dR, dF, dP, m_seen_2, m_labels_2, m_reached_2, m_figures_2, m_parts_2) h rfl dX5_all_106
          · replace h := h.2 c_3
            have n19_0 := lv_neT c_1 (a := 0) (by decide)
            have n19_1 := lv_neT c_2 (a := 1) (by decide)
            have n19_2 := lv_neT c_3 (a := 2) (by decide)
            refine v_tout C 107 dX5_all_19 (by omega) (by decide) ?_
            refine v_aload_n C dX5_all_107 rfl 0 rfl ?_
            refine v_get C iX5_all_5 0 rfl rfl 0 (by decide) mX5_all_w2 rfl rfl dX5_all_108 ?_
            refine v_iload_n C dX5_all_111 rfl 1 rfl ?_
            obtain ⟨hin_4, h⟩ := h
            refine v_aldG C 1 rfl hin_4 rfl dX5_all_112 ?_
            refine v_callVi C (c_Gr_darkCells l G ad (cw G ad lf chM chR chN chK md sp dS dL dR dF dP lS lL lR lF lP sS sL sT sD sM sX mk si sl sf ss) (26 + 2 * a1.toNatClampNeg) (cw_mkR G ad lf chM chR chN chK md sp dS dL dR dF dP lS lL lR lF lP sS sL sT sD sM sX mk si sl sf ss (qm_lt4 hin_4))  h) (26 + 2 * a1.toNatClampNeg) (cw_mkR G ad lf chM chR chN chK md sp dS dL dR dF dP lS lL lR lF lP sS sL sT sD sM sX mk si sl sf ss (qm_lt4 hin_4)).1 rfl gX5_all_X1_darkCells rfl kX1_darkCells ⟨rfl, rfl⟩ ⟨Nat.le_of_ble_eq_true rfl, Nat.le_of_ble_eq_true rfl⟩ rfl (Nat.le_of_ble_eq_true rfl) dX5_all_113 (fun r_5 _ h => ?_)
            try dsimp only at h
            exact hret _ _ _ r_5 (sp, dS, dL, dR, dF, dP, lS, lL, lR, lF, lP) h rfl dX5_all_116
    · replace h := h.1 c_4
      refine v_bipush C (-2) dX5_all_15 (by decide) ?_
      exact hret _ _ _ (-2) (sp, dS, dL, dR, dF, dP, lS, lL, lR, lF, lP) h rfl dX5_all_17
-- QuarterMasks.label
def rmX5_label : Room := { frames := 5, cells := 0, slots := 0, locals := 132 }
theorem kX5_label : yX5_label.cls = RX5 ∧ yX5_label.cls ≠ "java/lang/invoke/MethodHandle" ∧ yX5_label.cls ≠ "java/lang/invoke/VarHandle" ∧ (parseMethodDescriptor yX5_label.desc).map (fun d => d.parameters.length) = some 3 := by decide +kernel
theorem mX5_label_w1 : Cond.fieldLink RX5 39 "QuarterMasks" "darkParts" "LQuarterMasks$Parts;" ∈ wsX5_label := List.mem_of_getElem? (i := 1) rfl
theorem iX5_label_5 : ∀ w ∈ wsX50, w ∈ wsX5_label := fun w h => List.mem_cons_of_mem _ (List.mem_append_left _ (List.mem_append_left _ (List.mem_append_right _ h)))
theorem mX5_label_w2 : Cond.fieldLink RX5 11 "QuarterMasks" "masks" "[LQuarterMasks$Grid;" ∈ wsX5_label := List.mem_of_getElem? (i := 2) rfl
def wp_Qm_label (dS : IA) (dL : IA) (dR : IA) (dF : IA) (dP : Int32) (mk : Nat → IA) (a1 : Int32) (a2 : Int32) (a3 : Int32) (Q : Int32 → IA → IA → IA → IA → Int32 → Prop) : Prop :=
  wp_Qm_isMask a1 (fun r_1 => (r_1 = 0 → (Q (-2) dS dL dR dF dP)) ∧ (¬ r_1 = 0 → (wp_Qm_isCell a2 a3 (fun r_2 => (r_2 = 0 → (Q (-2) dS dL dR dF dP)) ∧ (¬ r_2 = 0 → (vp_in a1 4 ∧ (wp_Pa_look dS dL dR dF dP (mk a1.toNatClampNeg) (fun m_seen_1 m_labels_1 m_reached_1 m_figures_1 m_parts_1 => wp_Pa_labelAt m_labels_1 a2 a3 (fun r_3 => Q r_3 m_seen_1 m_labels_1 m_reached_1 m_figures_1 m_parts_1)))))))))
set_option maxHeartbeats 4000000 in
theorem c_Qm_label (l : Launch) (G : GG) (ad : Nat → Nat) (lf : Int32) (chM : IA) (chR : IA) (chN : Int32) (chK : Int32) (md : IA) (sp : IA) (dS : IA) (dL : IA) (dR : IA) (dF : IA) (dP : Int32) (lS : IA) (lL : IA) (lR : IA) (lF : IA) (lP : Int32) (sS : IA) (sL : IA) (sT : Int32) (sD : Int32) (sM : Int32) (sX : Int32) (mk : Nat → IA) (si : Nat → IA) (sl : IA) (sf : IA) (ss : IA) (a1 : Int32) (a2 : Int32) (a3 : Int32) {Q : Int32 → IA → IA → IA → IA → Int32 → Prop} (h : wp_Qm_label dS dL dR dF dP mk a1 a2 a3 Q) : qm_MI l yX5_label wsX5_label rmX5_label G [.ref (ad 0), .int a1, .int a2, .int a3] (cw G ad lf chM chR chN chK md sp dS dL dR dF dP lS lL lR lF lP sS sL sT sD sM sX mk si sl sf ss) (fun (r : Int32) (u : IA × IA × IA × IA × Int32) => Q r u.1 u.2.1 u.2.2.1 u.2.2.2.1 u.2.2.2.2) (fun (u : IA × IA × IA × IA × Int32) => cw G ad lf chM chR chN chK md sp u.1 u.2.1 u.2.2.1 u.2.2.2.1 u.2.2.2.2 lS lL lR lF lP sS sL sT sD sM sX mk si sl sf ss) := by
  refine qm_mkI (cc := cX5_label) (maxL := 4) (by decide) rfl (Nat.le_of_ble_eq_true rfl) ?_
  intro X C hret
  replace C : qm_C G 4 X cX5_label wsX5_label RX5 := C
  refine v_lv (lv' := [(0, .ref (ad 0)), (1, .int a1), (2, .int a2), (3, .int a3)]) rfl ?_
  unfold wp_Qm_label at h
  refine v_iload_n C dX5_label_0 rfl 1 rfl ?_
  refine v_callSi C (c_Qm_isMask l G (cw G ad lf chM chR chN chK md sp dS dL dR dF dP lS lL lR lF lP sS sL sT sD sM sX mk si sl sf ss) a1 h) gX5_label_X5_isMask rfl kX5_isMask ⟨rfl, rfl⟩ ⟨Nat.le_of_ble_eq_true rfl, Nat.le_of_ble_eq_true rfl⟩ rfl (Nat.le_of_ble_eq_true rfl) dX5_label_1 (fun r_1 _ h => ?_)
  try dsimp only at h
  refine v_if_eq C 15 dX5_label_4 (by decide) (fun c_2 => ?_) (fun c_2 => ?_)
  · replace h := h.1 c_2
    refine v_bipush C (-2) dX5_label_15 (by decide) ?_
    exact hret _ _ _ (-2) (dS, dL, dR, dF, dP) h rfl dX5_label_17
  · replace h := h.2 c_2
    refine v_iload_n C dX5_label_7 rfl 2 rfl ?_
    refine v_iload_n C dX5_label_8 rfl 3 rfl ?_
    refine v_callSi C (c_Qm_isCell l G (cw G ad lf chM chR chN chK md sp dS dL dR dF dP lS lL lR lF lP sS sL sT sD sM sX mk si sl sf ss) a2 a3 h) gX5_label_X5_isCell rfl kX5_isCell ⟨rfl, rfl⟩ ⟨Nat.le_of_ble_eq_true rfl, Nat.le_of_ble_eq_true rfl⟩ rfl (Nat.le_of_ble_eq_true rfl) dX5_label_9 (fun r_2 _ h => ?_)
    try dsimp only at h
    refine v_if_ne C 18 dX5_label_12 (by decide) (fun c_1 => ?_) (fun c_1 => ?_)
    · replace h := h.2 c_1
      refine v_aload_n C dX5_label_18 rfl 0 rfl ?_
      refine v_get C iX5_label_5 0 rfl rfl 5 (by decide) mX5_label_w1 rfl rfl dX5_label_19 ?_
      refine v_aload_n C dX5_label_22 rfl 0 rfl ?_
      refine v_get C iX5_label_5 0 rfl rfl 0 (by decide) mX5_label_w2 rfl rfl dX5_label_23 ?_
      refine v_iload_n C dX5_label_26 rfl 1 rfl ?_
      obtain ⟨hin_1, h⟩ := h
      refine v_aldG C 1 rfl hin_1 rfl dX5_label_27 ?_
      refine v_callVv C (c_Pa_look l G ad (fun y0 y1 y2 y3 y4 => cw G ad lf chM chR chN chK md sp y0 y1 y2 y3 y4 lS lL lR lF lP sS sL sT sD sM sX mk si sl sf ss) 10 (26 + 2 * a1.toNatClampNeg) (cw_dp G ad lf chM chR chN chK md sp dS dL dR dF dP lS lL lR lF lP sS sL sT sD sM sX mk si sl sf ss) (fun y0 y1 y2 y3 y4 => (cw_mkR G ad lf chM chR chN chK md sp y0 y1 y2 y3 y4 lS lL lR lF lP sS sL sT sD sM sX mk si sl sf ss (qm_lt4 hin_1))) dS dL dR dF dP h) 10 rfl rfl gX5_label_X2_look rfl kX2_look ⟨rfl, rfl⟩ ⟨Nat.le_of_ble_eq_true rfl, Nat.le_of_ble_eq_true rfl⟩ rfl (Nat.le_of_ble_eq_true rfl) dX5_label_28 (fun u h => ?_)
      obtain ⟨m_seen_1, m_labels_1, m_reached_1, m_figures_1, m_parts_1⟩ := u
      try dsimp only at h
      refine v_world (ws' := cw G ad lf chM chR chN chK md sp m_seen_1 m_labels_1 m_reached_1 m_figures_1 m_parts_1 lS lL lR lF lP sS sL sT sD sM sX mk si sl sf ss) rfl ?_
      refine v_aload_n C dX5_label_31 rfl 0 rfl ?_
      refine v_get C iX5_label_5 0 rfl rfl 5 (by decide) mX5_label_w1 rfl rfl dX5_label_32 ?_
      refine v_iload_n C dX5_label_35 rfl 2 rfl ?_
      refine v_iload_n C dX5_label_36 rfl 3 rfl ?_
      refine v_callVi C (c_Pa_labelAt l G ad (cw G ad lf chM chR chN chK md sp m_seen_1 m_labels_1 m_reached_1 m_figures_1 m_parts_1 lS lL lR lF lP sS sL sT sD sM sX mk si sl sf ss) 10 (cw_dp G ad lf chM chR chN chK md sp m_seen_1 m_labels_1 m_reached_1 m_figures_1 m_parts_1 lS lL lR lF lP sS sL sT sD sM sX mk si sl sf ss m_seen_1 m_labels_1 m_reached_1 m_figures_1 m_parts_1).1  a2 a3 h) 10 rfl rfl gX5_label_X2_labelAt rfl kX2_labelAt ⟨rfl, rfl⟩ ⟨Nat.le_of_ble_eq_true rfl, Nat.le_of_ble_eq_true rfl⟩ rfl (Nat.le_of_ble_eq_true rfl) dX5_label_37 (fun r_3 _ h => ?_)
      try dsimp only at h
      exact hret _ _ _ r_3 (m_seen_1, m_labels_1, m_reached_1, m_figures_1, m_parts_1) h rfl dX5_label_40
    · replace h := h.1 c_1
      refine v_bipush C (-2) dX5_label_15 (by decide) ?_
      exact hret _ _ _ (-2) (dS, dL, dR, dF, dP) h rfl dX5_label_17
-- QuarterMasks.part
def rmX5_part : Room := { frames := 5, cells := 0, slots := 0, locals := 132 }
theorem kX5_part : yX5_part.cls = RX5 ∧ yX5_part.cls ≠ "java/lang/invoke/MethodHandle" ∧ yX5_part.cls ≠ "java/lang/invoke/VarHandle" ∧ (parseMethodDescriptor yX5_part.desc).map (fun d => d.parameters.length) = some 3 := by decide +kernel
theorem mX5_part_w1 : Cond.fieldLink RX5 39 "QuarterMasks" "darkParts" "LQuarterMasks$Parts;" ∈ wsX5_part := List.mem_of_getElem? (i := 1) rfl
theorem iX5_part_5 : ∀ w ∈ wsX50, w ∈ wsX5_part := fun w h => List.mem_cons_of_mem _ (List.mem_append_left _ (List.mem_append_left _ (List.mem_append_right _ h)))
theorem mX5_part_w2 : Cond.fieldLink RX5 11 "QuarterMasks" "masks" "[LQuarterMasks$Grid;" ∈ wsX5_part := List.mem_of_getElem? (i := 2) rfl
theorem iX5_part_2 : ∀ w ∈ wsX20, w ∈ wsX5_part := fun w h => List.mem_cons_of_mem _ (List.mem_append_left _ (List.mem_append_right _ h))
def wp_Qm_part (dS : IA) (dL : IA) (dR : IA) (dF : IA) (dP : Int32) (mk : Nat → IA) (a1 : Int32) (a2 : Int32) (a3 : Int32) (Q : Int32 → IA → IA → IA → IA → Int32 → Prop) : Prop :=
  wp_Qm_isMask a1 (fun r_1 => (r_1 = 0 → (Q (-2) dS dL dR dF dP)) ∧ (¬ r_1 = 0 → (wp_Qm_within a3 6 (fun r_2 => (r_2 = 0 → (Q (-2) dS dL dR dF dP)) ∧ (¬ r_2 = 0 → (vp_in a1 4 ∧ (wp_Pa_look dS dL dR dF dP (mk a1.toNatClampNeg) (fun m_seen_1 m_labels_1 m_reached_1 m_figures_1 m_parts_1 => wp_Qm_within a2 m_parts_1 (fun r_3 => (r_3 = 0 → (Q (-2) m_seen_1 m_labels_1 m_reached_1 m_figures_1 m_parts_1)) ∧ (¬ r_3 = 0 → (wp_Pa_figure m_figures_1 m_parts_1 a2 a3 (fun r_4 => Q r_4 m_seen_1 m_labels_1 m_reached_1 m_figures_1 m_parts_1))))))))))))
set_option maxHeartbeats 4000000 in
theorem c_Qm_part (l : Launch) (G : GG) (ad : Nat → Nat) (lf : Int32) (chM : IA) (chR : IA) (chN : Int32) (chK : Int32) (md : IA) (sp : IA) (dS : IA) (dL : IA) (dR : IA) (dF : IA) (dP : Int32) (lS : IA) (lL : IA) (lR : IA) (lF : IA) (lP : Int32) (sS : IA) (sL : IA) (sT : Int32) (sD : Int32) (sM : Int32) (sX : Int32) (mk : Nat → IA) (si : Nat → IA) (sl : IA) (sf : IA) (ss : IA) (a1 : Int32) (a2 : Int32) (a3 : Int32) {Q : Int32 → IA → IA → IA → IA → Int32 → Prop} (h : wp_Qm_part dS dL dR dF dP mk a1 a2 a3 Q) : qm_MI l yX5_part wsX5_part rmX5_part G [.ref (ad 0), .int a1, .int a2, .int a3] (cw G ad lf chM chR chN chK md sp dS dL dR dF dP lS lL lR lF lP sS sL sT sD sM sX mk si sl sf ss) (fun (r : Int32) (u : IA × IA × IA × IA × Int32) => Q r u.1 u.2.1 u.2.2.1 u.2.2.2.1 u.2.2.2.2) (fun (u : IA × IA × IA × IA × Int32) => cw G ad lf chM chR chN chK md sp u.1 u.2.1 u.2.2.1 u.2.2.2.1 u.2.2.2.2 lS lL lR lF lP sS sL sT sD sM sX mk si sl sf ss) := by
  refine qm_mkI (cc := cX5_part) (maxL := 4) (by decide) rfl (Nat.le_of_ble_eq_true rfl) ?_
  intro X C hret
  replace C : qm_C G 4 X cX5_part wsX5_part RX5 := C
  refine v_lv (lv' := [(0, .ref (ad 0)), (1, .int a1), (2, .int a2), (3, .int a3)]) rfl ?_
  unfold wp_Qm_part at h
  refine v_iload_n C dX5_part_0 rfl 1 rfl ?_
  refine v_callSi C (c_Qm_isMask l G (cw G ad lf chM chR chN chK md sp dS dL dR dF dP lS lL lR lF lP sS sL sT sD sM sX mk si sl sf ss) a1 h) gX5_part_X5_isMask rfl kX5_isMask ⟨rfl, rfl⟩ ⟨Nat.le_of_ble_eq_true rfl, Nat.le_of_ble_eq_true rfl⟩ rfl (Nat.le_of_ble_eq_true rfl) dX5_part_1 (fun r_1 _ h => ?_)
  try dsimp only at h
  refine v_if_eq C 16 dX5_part_4 (by decide) (fun c_3 => ?_) (fun c_3 => ?_)
  · replace h := h.1 c_3
    refine v_bipush C (-2) dX5_part_16 (by decide) ?_
    exact hret _ _ _ (-2) (dS, dL, dR, dF, dP) h rfl dX5_part_18
  · replace h := h.2 c_3
    refine v_iload_n C dX5_part_7 rfl 3 rfl ?_
    refine v_bipush C 6 dX5_part_8 (by decide) ?_
    refine v_callSi C (c_Qm_within l G (cw G ad lf chM chR chN chK md sp dS dL dR dF dP lS lL lR lF lP sS sL sT sD sM sX mk si sl sf ss) a3 6 h) gX5_part_X5_within rfl kX5_within ⟨rfl, rfl⟩ ⟨Nat.le_of_ble_eq_true rfl, Nat.le_of_ble_eq_true rfl⟩ rfl (Nat.le_of_ble_eq_true rfl) dX5_part_10 (fun r_2 _ h => ?_)
    try dsimp only at h
    refine v_if_ne C 19 dX5_part_13 (by decide) (fun c_2 => ?_) (fun c_2 => ?_)
    · replace h := h.2 c_2
      refine v_aload_n C dX5_part_19 rfl 0 rfl ?_
      refine v_get C iX5_part_5 0 rfl rfl 5 (by decide) mX5_part_w1 rfl rfl dX5_part_20 ?_
      refine v_aload_n C dX5_part_23 rfl 0 rfl ?_
      refine v_get C iX5_part_5 0 rfl rfl 0 (by decide) mX5_part_w2 rfl rfl dX5_part_24 ?_
      refine v_iload_n C dX5_part_27 rfl 1 rfl ?_
      obtain ⟨hin_1, h⟩ := h
      refine v_aldG C 1 rfl hin_1 rfl dX5_part_28 ?_
      refine v_callVv C (c_Pa_look l G ad (fun y0 y1 y2 y3 y4 => cw G ad lf chM chR chN chK md sp y0 y1 y2 y3 y4 lS lL lR lF lP sS sL sT sD sM sX mk si sl sf ss) 10 (26 + 2 * a1.toNatClampNeg) (cw_dp G ad lf chM chR chN chK md sp dS dL dR dF dP lS lL lR lF lP sS sL sT sD sM sX mk si sl sf ss) (fun y0 y1 y2 y3 y4 => (cw_mkR G ad lf chM chR chN chK md sp y0 y1 y2 y3 y4 lS lL lR lF lP sS sL sT sD sM sX mk si sl sf ss (qm_lt4 hin_1))) dS dL dR dF dP h) 10 rfl rfl gX5_part_X2_look rfl kX2_look ⟨rfl, rfl⟩ ⟨Nat.le_of_ble_eq_true rfl, Nat.le_of_ble_eq_true rfl⟩ rfl (Nat.le_of_ble_eq_true rfl) dX5_part_29 (fun u h => ?_)
      obtain ⟨m_seen_1, m_labels_1, m_reached_1, m_figures_1, m_parts_1⟩ := u
      try dsimp only at h
      refine v_world (ws' := cw G ad lf chM chR chN chK md sp m_seen_1 m_labels_1 m_reached_1 m_figures_1 m_parts_1 lS lL lR lF lP sS sL sT sD sM sX mk si sl sf ss) rfl ?_
      refine v_iload_n C dX5_part_32 rfl 2 rfl ?_
      refine v_aload_n C dX5_part_33 rfl 0 rfl ?_
      refine v_get C iX5_part_5 0 rfl rfl 5 (by decide) mX5_part_w1 rfl rfl dX5_part_34 ?_
      refine v_getN C iX5_part_2 10 rfl rfl 4 (by decide) (fun _ h => h.2.2.2.2.2.1) rfl rfl dX5_part_37 ?_
      refine v_callSi C (c_Qm_within l G (cw G ad lf chM chR chN chK md sp m_seen_1 m_labels_1 m_reached_1 m_figures_1 m_parts_1 lS lL lR lF lP sS sL sT sD sM sX mk si sl sf ss) a2 m_parts_1 h) gX5_part_X5_within rfl kX5_within ⟨rfl, rfl⟩ ⟨Nat.le_of_ble_eq_true rfl, Nat.le_of_ble_eq_true rfl⟩ rfl (Nat.le_of_ble_eq_true rfl) dX5_part_40 (fun r_3 _ h => ?_)
      try dsimp only at h
      refine v_if_ne C 49 dX5_part_43 (by decide) (fun c_1 => ?_) (fun c_1 => ?_)
      · replace h := h.2 c_1
        refine v_aload_n C dX5_part_49 rfl 0 rfl ?_
        refine v_get C iX5_part_5 0 rfl rfl 5 (by decide) mX5_part_w1 rfl rfl dX5_part_50 ?_
        refine v_iload_n C dX5_part_53 rfl 2 rfl ?_
        refine v_iload_n C dX5_part_54 rfl 3 rfl ?_
        refine v_callVi C (c_Pa_figure l G ad (cw G ad lf chM chR chN chK md sp m_seen_1 m_labels_1 m_reached_1 m_figures_1 m_parts_1 lS lL lR lF lP sS sL sT sD sM sX mk si sl sf ss) 10 (cw_dp G ad lf chM chR chN chK md sp m_seen_1 m_labels_1 m_reached_1 m_figures_1 m_parts_1 lS lL lR lF lP sS sL sT sD sM sX mk si sl sf ss m_seen_1 m_labels_1 m_reached_1 m_figures_1 m_parts_1).1  a2 a3 h) 10 rfl rfl gX5_part_X2_figure rfl kX2_figure ⟨rfl, rfl⟩ ⟨Nat.le_of_ble_eq_true rfl, Nat.le_of_ble_eq_true rfl⟩ rfl (Nat.le_of_ble_eq_true rfl) dX5_part_55 (fun r_4 _ h => ?_)
        try dsimp only at h
        exact hret _ _ _ r_4 (m_seen_1, m_labels_1, m_reached_1, m_figures_1, m_parts_1) h rfl dX5_part_58
      · replace h := h.1 c_1
        refine v_bipush C (-2) dX5_part_46 (by decide) ?_
        exact hret _ _ _ (-2) (m_seen_1, m_labels_1, m_reached_1, m_figures_1, m_parts_1) h rfl dX5_part_48
    · replace h := h.1 c_2
      refine v_bipush C (-2) dX5_part_16 (by decide) ?_
      exact hret _ _ _ (-2) (dS, dL, dR, dF, dP) h rfl dX5_part_18
-- QuarterMasks.near
def rmX5_near : Room := { frames := 3, cells := 0, slots := 0, locals := 89 }
theorem kX5_near : yX5_near.cls = RX5 ∧ yX5_near.cls ≠ "java/lang/invoke/MethodHandle" ∧ yX5_near.cls ≠ "java/lang/invoke/VarHandle" ∧ (parseMethodDescriptor yX5_near.desc).map (fun d => d.parameters.length) = some 3 := by decide +kernel
theorem mX5_near_w1 : Cond.fieldLink RX5 11 "QuarterMasks" "masks" "[LQuarterMasks$Grid;" ∈ wsX5_near := List.mem_of_getElem? (i := 1) rfl
theorem iX5_near_5 : ∀ w ∈ wsX50, w ∈ wsX5_near := fun w h => List.mem_cons_of_mem _ (List.mem_append_left _ (List.mem_append_right _ h))
def wp_Qm_near (mk : Nat → IA) (a1 : Int32) (a2 : Int32) (a3 : Int32) (Q : Int32 → Prop) : Prop :=
  wp_Qm_isMask a1 (fun r_1 => (r_1 = 0 → (Q (-2))) ∧ (¬ r_1 = 0 → (wp_Qm_isCell a2 a3 (fun r_2 => (r_2 = 0 → (Q (-2))) ∧ (¬ r_2 = 0 → (vp_in a1 4 ∧ (wp_Gr_distanceFrom (mk a1.toNatClampNeg) a2 a3 (fun r_3 => Q r_3))))))))
set_option maxHeartbeats 4000000 in
theorem c_Qm_near (l : Launch) (G : GG) (ad : Nat → Nat) (lf : Int32) (chM : IA) (chR : IA) (chN : Int32) (chK : Int32) (md : IA) (sp : IA) (dS : IA) (dL : IA) (dR : IA) (dF : IA) (dP : Int32) (lS : IA) (lL : IA) (lR : IA) (lF : IA) (lP : Int32) (sS : IA) (sL : IA) (sT : Int32) (sD : Int32) (sM : Int32) (sX : Int32) (mk : Nat → IA) (si : Nat → IA) (sl : IA) (sf : IA) (ss : IA) (a1 : Int32) (a2 : Int32) (a3 : Int32) {Q : Int32 → Prop} (h : wp_Qm_near mk a1 a2 a3 Q) : qm_MI l yX5_near wsX5_near rmX5_near G [.ref (ad 0), .int a1, .int a2, .int a3] (cw G ad lf chM chR chN chK md sp dS dL dR dF dP lS lL lR lF lP sS sL sT sD sM sX mk si sl sf ss) (fun (r : Int32) (_ : Unit) => Q r) (fun (_ : Unit) => cw G ad lf chM chR chN chK md sp dS dL dR dF dP lS lL lR lF lP sS sL sT sD sM sX mk si sl sf ss) := by
  refine qm_mkI (cc := cX5_near) (maxL := 4) (by decide) rfl (Nat.le_of_ble_eq_true rfl) ?_
  intro X C hret
  replace C : qm_C G 4 X cX5_near wsX5_near RX5 := C
  refine v_lv (lv' := [(0, .ref (ad 0)), (1, .int a1), (2, .int a2), (3, .int a3)]) rfl ?_
  unfold wp_Qm_near at h
  refine v_iload_n C dX5_near_0 rfl 1 rfl ?_
  refine v_callSi C (c_Qm_isMask l G (cw G ad lf chM chR chN chK md sp dS dL dR dF dP lS lL lR lF lP sS sL sT sD sM sX mk si sl sf ss) a1 h) gX5_near_X5_isMask rfl kX5_isMask ⟨rfl, rfl⟩ ⟨Nat.le_of_ble_eq_true rfl, Nat.le_of_ble_eq_true rfl⟩ rfl (Nat.le_of_ble_eq_true rfl) dX5_near_1 (fun r_1 _ h => ?_)
  try dsimp only at h
  refine v_if_eq C 15 dX5_near_4 (by decide) (fun c_2 => ?_) (fun c_2 => ?_)
  · replace h := h.1 c_2
    refine v_bipush C (-2) dX5_near_15 (by decide) ?_
    exact hret _ _ _ (-2) () h rfl dX5_near_17
  · replace h := h.2 c_2
    refine v_iload_n C dX5_near_7 rfl 2 rfl ?_
    refine v_iload_n C dX5_near_8 rfl 3 rfl ?_
    refine v_callSi C (c_Qm_isCell l G (cw G ad lf chM chR chN chK md sp dS dL dR dF dP lS lL lR lF lP sS sL sT sD sM sX mk si sl sf ss) a2 a3 h) gX5_near_X5_isCell rfl kX5_isCell ⟨rfl, rfl⟩ ⟨Nat.le_of_ble_eq_true rfl, Nat.le_of_ble_eq_true rfl⟩ rfl (Nat.le_of_ble_eq_true rfl) dX5_near_9 (fun r_2 _ h => ?_)
    try dsimp only at h
    refine v_if_ne C 18 dX5_near_12 (by decide) (fun c_1 => ?_) (fun c_1 => ?_)
    · replace h := h.2 c_1
      refine v_aload_n C dX5_near_18 rfl 0 rfl ?_
      refine v_get C iX5_near_5 0 rfl rfl 0 (by decide) mX5_near_w1 rfl rfl dX5_near_19 ?_
      refine v_iload_n C dX5_near_22 rfl 1 rfl ?_
      obtain ⟨hin_1, h⟩ := h
      refine v_aldG C 1 rfl hin_1 rfl dX5_near_23 ?_
      refine v_iload_n C dX5_near_24 rfl 2 rfl ?_
      refine v_iload_n C dX5_near_25 rfl 3 rfl ?_
      refine v_callVi C (c_Gr_distanceFrom l G ad (cw G ad lf chM chR chN chK md sp dS dL dR dF dP lS lL lR lF lP sS sL sT sD sM sX mk si sl sf ss) (26 + 2 * a1.toNatClampNeg) (cw_mkR G ad lf chM chR chN chK md sp dS dL dR dF dP lS lL lR lF lP sS sL sT sD sM sX mk si sl sf ss (qm_lt4 hin_1))  a2 a3 h) (26 + 2 * a1.toNatClampNeg) (cw_mkR G ad lf chM chR chN chK md sp dS dL dR dF dP lS lL lR lF lP sS sL sT sD sM sX mk si sl sf ss (qm_lt4 hin_1)).1 rfl gX5_near_X1_distanceFrom rfl kX1_distanceFrom ⟨rfl, rfl⟩ ⟨Nat.le_of_ble_eq_true rfl, Nat.le_of_ble_eq_true rfl⟩ rfl (Nat.le_of_ble_eq_true rfl) dX5_near_26 (fun r_3 _ h => ?_)
      try dsimp only at h
      exact hret _ _ _ r_3 () h rfl dX5_near_29
    · replace h := h.1 c_1
      refine v_bipush C (-2) dX5_near_15 (by decide) ?_
      exact hret _ _ _ (-2) () h rfl dX5_near_17
-- QuarterMasks.both
def rmX5_both : Room := { frames := 4, cells := 0, slots := 0, locals := 104 }
theorem kX5_both : yX5_both.cls = RX5 ∧ yX5_both.cls ≠ "java/lang/invoke/MethodHandle" ∧ yX5_both.cls ≠ "java/lang/invoke/VarHandle" ∧ (parseMethodDescriptor yX5_both.desc).map (fun d => d.parameters.length) = some 3 := by decide +kernel
theorem mX5_both_w1 : Cond.fieldLink RX5 11 "QuarterMasks" "masks" "[LQuarterMasks$Grid;" ∈ wsX5_both := List.mem_of_getElem? (i := 1) rfl
theorem iX5_both_5 : ∀ w ∈ wsX50, w ∈ wsX5_both := fun w h => List.mem_cons_of_mem _ (List.mem_append_left _ (List.mem_append_right _ h))
def wp_Qm_both (mk : Nat → IA) (a1 : Int32) (a2 : Int32) (a3 : Int32) (Q : Int32 → Prop) : Prop :=
  wp_Qm_isMask a1 (fun r_1 => (r_1 = 0 → (Q (-2))) ∧ (¬ r_1 = 0 → (wp_Qm_isMask a2 (fun r_2 => (r_2 = 0 → (Q (-2))) ∧ (¬ r_2 = 0 → (wp_Qm_within a3 4 (fun r_3 => (r_3 = 0 → (Q (-2))) ∧ (¬ r_3 = 0 → ((a3 = 0 → (vp_in a1 4 ∧ (vp_in a2 4 ∧ (wp_Gr_sameAs (mk a1.toNatClampNeg) (mk a2.toNatClampNeg) (fun r_4 => (r_4 = 0 → (Q 0)) ∧ (¬ r_4 = 0 → (Q 1))))))) ∧ (¬ a3 = 0 → ((a3 = 1 → (vp_in a1 4 ∧ (vp_in a2 4 ∧ (wp_Gr_darkCellsIn (mk a1.toNatClampNeg) (mk a2.toNatClampNeg) (fun r_5 => vp_in a1 4 ∧ (wp_Gr_darkCells (mk a1.toNatClampNeg) (fun r_6 => (r_5 = r_6 → (Q 1)) ∧ (¬ r_5 = r_6 → (Q 0))))))))) ∧ (¬ a3 = 1 → ((a3 = 2 → (vp_in a1 4 ∧ (vp_in a2 4 ∧ (wp_Gr_darkCellsIn (mk a1.toNatClampNeg) (mk a2.toNatClampNeg) (fun r_7 => Q r_7))))) ∧ (¬ a3 = 2 → (vp_in a1 4 ∧ (vp_in a2 4 ∧ (wp_Gr_touches (mk a1.toNatClampNeg) (mk a2.toNatClampNeg) (fun r_8 => (r_8 = 0 → (Q 0)) ∧ (¬ r_8 = 0 → (Q 1))))))))))))))))))))
set_option maxHeartbeats 4000000 in
theorem c_Qm_both (l : Launch) (G : GG) (ad : Nat → Nat) (lf : Int32) (chM : IA) (chR : IA) (chN : Int32) (chK : Int32) (md : IA) (sp : IA) (dS : IA) (dL : IA) (dR : IA) (dF : IA) (dP : Int32) (lS : IA) (lL : IA) (lR : IA) (lF : IA) (lP : Int32) (sS : IA) (sL : IA) (sT : Int32) (sD : Int32) (sM : Int32) (sX : Int32) (mk : Nat → IA) (si : Nat → IA) (sl : IA) (sf : IA) (ss : IA) (a1 : Int32) (a2 : Int32) (a3 : Int32) {Q : Int32 → Prop} (h : wp_Qm_both mk a1 a2 a3 Q) : qm_MI l yX5_both wsX5_both rmX5_both G [.ref (ad 0), .int a1, .int a2, .int a3] (cw G ad lf chM chR chN chK md sp dS dL dR dF dP lS lL lR lF lP sS sL sT sD sM sX mk si sl sf ss) (fun (r : Int32) (_ : Unit) => Q r) (fun (_ : Unit) => cw G ad lf chM chR chN chK md sp dS dL dR dF dP lS lL lR lF lP sS sL sT sD sM sX mk si sl sf ss) := by
  refine qm_mkI (cc := cX5_both) (maxL := 4) (by decide) rfl (Nat.le_of_ble_eq_true rfl) ?_
  intro X C hret
  replace C : qm_C G 4 X cX5_both wsX5_both RX5 := C
  refine v_lv (lv' := [(0, .ref (ad 0)), (1, .int a1), (2, .int a2), (3, .int a3)]) rfl ?_
  unfold wp_Qm_both at h
  refine v_iload_n C dX5_both_0 rfl 1 rfl ?_
  refine v_callSi C (c_Qm_isMask l G (cw G ad lf chM chR chN chK md sp dS dL dR dF dP lS lL lR lF lP sS sL sT sD sM sX mk si sl sf ss) a1 h) gX5_both_X5_isMask rfl kX5_isMask ⟨rfl, rfl⟩ ⟨Nat.le_of_ble_eq_true rfl, Nat.le_of_ble_eq_true rfl⟩ rfl (Nat.le_of_ble_eq_true rfl) dX5_both_1 (fun r_1 _ h => ?_)
  try dsimp only at h
  refine v_if_eq C 22 dX5_both_4 (by decide) (fun c_9 => ?_) (fun c_9 => ?_)
  · replace h := h.1 c_9
    refine v_bipush C (-2) dX5_both_22 (by decide) ?_
    exact hret _ _ _ (-2) () h rfl dX5_both_24
  · replace h := h.2 c_9
    refine v_iload_n C dX5_both_7 rfl 2 rfl ?_
    refine v_callSi C (c_Qm_isMask l G (cw G ad lf chM chR chN chK md sp dS dL dR dF dP lS lL lR lF lP sS sL sT sD sM sX mk si sl sf ss) a2 h) gX5_both_X5_isMask rfl kX5_isMask ⟨rfl, rfl⟩ ⟨Nat.le_of_ble_eq_true rfl, Nat.le_of_ble_eq_true rfl⟩ rfl (Nat.le_of_ble_eq_true rfl) dX5_both_8 (fun r_2 _ h => ?_)
    try dsimp only at h
    refine v_if_eq C 22 dX5_both_11 (by decide) (fun c_8 => ?_) (fun c_8 => ?_)
    · replace h := h.1 c_8
      refine v_bipush C (-2) dX5_both_22 (by decide) ?_
      exact hret _ _ _ (-2) () h rfl dX5_both_24
    · replace h := h.2 c_8
      refine v_iload_n C dX5_both_14 rfl 3 rfl ?_
      refine v_iconst C 4 dX5_both_15 (by decide) ?_
      refine v_callSi C (c_Qm_within l G (cw G ad lf chM chR chN chK md sp dS dL dR dF dP lS lL lR lF lP sS sL sT sD sM sX mk si sl sf ss) a3 4 h) gX5_both_X5_within rfl kX5_within ⟨rfl, rfl⟩ ⟨Nat.le_of_ble_eq_true rfl, Nat.le_of_ble_eq_true rfl⟩ rfl (Nat.le_of_ble_eq_true rfl) dX5_both_16 (fun r_3 _ h => ?_)
      try dsimp only at h
      refine v_if_ne C 25 dX5_both_19 (by decide) (fun c_7 => ?_) (fun c_7 => ?_)
      · replace h := h.2 c_7
        refine v_iload_n C dX5_both_25 rfl 3 rfl ?_
        by_cases c_1 : a3 = 0
        · replace h := h.1 c_1
          refine v_tin C 0 52 c_1 dX5_both_26 (by decide) rfl (by decide) ?_
          refine v_aload_n C dX5_both_52 rfl 0 rfl ?_
          refine v_get C iX5_both_5 0 rfl rfl 0 (by decide) mX5_both_w1 rfl rfl dX5_both_53 ?_
          refine v_iload_n C dX5_both_56 rfl 1 rfl ?_
          obtain ⟨hin_1, h⟩ := h
          refine v_aldG C 1 rfl hin_1 rfl dX5_both_57 ?_
          refine v_aload_n C dX5_both_58 rfl 0 rfl ?_
          refine v_get C iX5_both_5 0 rfl rfl 0 (by decide) mX5_both_w1 rfl rfl dX5_both_59 ?_
          refine v_iload_n C dX5_both_62 rfl 2 rfl ?_
          obtain ⟨hin_2, h⟩ := h
          refine v_aldG C 1 rfl hin_2 rfl dX5_both_63 ?_
          refine v_callVi C (c_Gr_sameAs l G ad (cw G ad lf chM chR chN chK md sp dS dL dR dF dP lS lL lR lF lP sS sL sT sD sM sX mk si sl sf ss) (26 + 2 * a1.toNatClampNeg) (26 + 2 * a2.toNatClampNeg) (cw_mkR G ad lf chM chR chN chK md sp dS dL dR dF dP lS lL lR lF lP sS sL sT sD sM sX mk si sl sf ss (qm_lt4 hin_1)) (cw_mkR G ad lf chM chR chN chK md sp dS dL dR dF dP lS lL lR lF lP sS sL sT sD sM sX mk si sl sf ss (qm_lt4 hin_2))  h) (26 + 2 * a1.toNatClampNeg) (cw_mkR G ad lf chM chR chN chK md sp dS dL dR dF dP lS lL lR lF lP sS sL sT sD sM sX mk si sl sf ss (qm_lt4 hin_1)).1 rfl gX5_both_X1_sameAs rfl kX1_sameAs ⟨rfl, rfl⟩ ⟨Nat.le_of_ble_eq_true rfl, Nat.le_of_ble_eq_true rfl⟩ rfl (Nat.le_of_ble_eq_true rfl) dX5_both_64 (fun r_4 _ h => ?_)
          try dsimp only at h
          refine v_if_eq C 74 dX5_both_67 (by decide) (fun c_2 => ?_) (fun c_2 => ?_)
          · replace h := h.1 c_2
            refine v_iconst C 0 dX5_both_74 (by decide) ?_
            exact hret _ _ _ 0 () h rfl dX5_both_75
          · replace h := h.2 c_2
            refine v_iconst C 1 dX5_both_70 (by decide) ?_
            refine v_goto C 75 dX5_both_71 (by decide) ?_
            exact hret _ _ _ 1 () h rfl dX5_both_75
        · replace h := h.2 c_1
          by_cases c_3 : a3 = 1
          · replace h := h.1 c_3
            refine v_tin C 1 76 c_3 dX5_both_26 (by decide) rfl (by decide) ?_
            refine v_aload_n C dX5_both_76 rfl 0 rfl ?_
            refine v_get C iX5_both_5 0 rfl rfl 0 (by decide) mX5_both_w1 rfl rfl dX5_both_77 ?_
            refine v_iload_n C dX5_both_80 rfl 1 rfl ?_
            obtain ⟨hin_3, h⟩ := h
            refine v_aldG C 1 rfl hin_3 rfl dX5_both_81 ?_
            refine v_aload_n C dX5_both_82 rfl 0 rfl ?_
            refine v_get C iX5_both_5 0 rfl rfl 0 (by decide) mX5_both_w1 rfl rfl dX5_both_83 ?_
            refine v_iload_n C dX5_both_86 rfl 2 rfl ?_
            obtain ⟨hin_4, h⟩ := h
            refine v_aldG C 1 rfl hin_4 rfl dX5_both_87 ?_
            refine v_callVi C (c_Gr_darkCellsIn l G ad (cw G ad lf chM chR chN chK md sp dS dL dR dF dP lS lL lR lF lP sS sL sT sD sM sX mk si sl sf ss) (26 + 2 * a1.toNatClampNeg) (26 + 2 * a2.toNatClampNeg) (cw_mkR G ad lf chM chR chN chK md sp dS dL dR dF dP lS lL lR lF lP sS sL sT sD sM sX mk si sl sf ss (qm_lt4 hin_3)) (cw_mkR G ad lf chM chR chN chK md sp dS dL dR dF dP lS lL lR lF lP sS sL sT sD sM sX mk si sl sf ss (qm_lt4 hin_4))  h) (26 + 2 * a1.toNatClampNeg) (cw_mkR G ad lf chM chR chN chK md sp dS dL dR dF dP lS lL lR lF lP sS sL sT sD sM sX mk si sl sf ss (qm_lt4 hin_3)).1 rfl gX5_both_X1_darkCellsIn rfl kX1_darkCellsIn ⟨rfl, rfl⟩ ⟨Nat.le_of_ble_eq_true rfl, Nat.le_of_ble_eq_true rfl⟩ rfl (Nat.le_of_ble_eq_true rfl) dX5_both_88 (fun r_5 _ h => ?_)
            try dsimp only at h
            refine v_aload_n C dX5_both_91 rfl 0 rfl ?_
            refine v_get C iX5_both_5 0 rfl rfl 0 (by decide) mX5_both_w1 rfl rfl dX5_both_92 ?_
            refine v_iload_n C dX5_both_95 rfl 1 rfl ?_
            obtain ⟨hin_5, h⟩ := h
            refine v_aldG C 1 rfl hin_5 rfl dX5_both_96 ?_
            refine v_callVi C (c_Gr_darkCells l G ad (cw G ad lf chM chR chN chK md sp dS dL dR dF dP lS lL lR lF lP sS sL sT sD sM sX mk si sl sf ss) (26 + 2 * a1.toNatClampNeg) (cw_mkR G ad lf chM chR chN chK md sp dS dL dR dF dP lS lL lR lF lP sS sL sT sD sM sX mk si sl sf ss (qm_lt4 hin_5))  h) (26 + 2 * a1.toNatClampNeg) (cw_mkR G ad lf chM chR chN chK md sp dS dL dR dF dP lS lL lR lF lP sS sL sT sD sM sX mk si sl sf ss (qm_lt4 hin_5)).1 rfl gX5_both_X1_darkCells rfl kX1_darkCells ⟨rfl, rfl⟩ ⟨Nat.le_of_ble_eq_true rfl, Nat.le_of_ble_eq_true rfl⟩ rfl (Nat.le_of_ble_eq_true rfl) dX5_both_97 (fun r_6 _ h => ?_)
            try dsimp only at h
            refine v_icmp_ne C 107 dX5_both_100 (by decide) (fun c_4 => ?_) (fun c_4 => ?_)
            · replace h := h.2 c_4
              refine v_iconst C 0 dX5_both_107 (by decide) ?_
              exact hret _ _ _ 0 () h rfl dX5_both_108
            · replace h := h.1 c_4
              refine v_iconst C 1 dX5_both_103 (by decide) ?_
              refine v_goto C 108 dX5_both_104 (by decide) ?_
              exact hret _ _ _ 1 () h rfl dX5_both_108
          · replace h := h.2 c_3
            by_cases c_5 : a3 = 2
            · replace h := h.1 c_5
              refine v_tin C 2 109 c_5 dX5_both_26 (by decide) rfl (by decide) ?_
              refine v_aload_n C dX5_both_109 rfl 0 rfl ?_
              refine v_get C iX5_both_5 0 rfl rfl 0 (by decide) mX5_both_w1 rfl rfl dX5_both_110 ?_
              refine v_iload_n C dX5_both_113 rfl 1 rfl ?_
              obtain ⟨hin_6, h⟩ := h
              refine v_aldG C 1 rfl hin_6 rfl dX5_both_114 ?_
              refine v_aload_n C dX5_both_115 rfl 0 rfl ?_
              refine v_get C iX5_both_5 0 rfl rfl 0 (by decide) mX5_both_w1 rfl rfl dX5_both_116 ?_
              refine v_iload_n C dX5_both_119 rfl 2 rfl ?_
              obtain ⟨hin_7, h⟩ := h
              refine v_aldG C 1 rfl hin_7 rfl dX5_both_120 ?_
              refine v_callVi C (c_Gr_darkCellsIn l G ad (cw G ad lf chM chR chN chK md sp dS dL dR dF dP lS lL lR lF lP sS sL sT sD sM sX mk si sl sf ss) (26 + 2 * a1.toNatClampNeg) (26 + 2 * a2.toNatClampNeg) (cw_mkR G ad lf chM chR chN chK md sp dS dL dR dF dP lS lL lR lF lP sS sL sT sD sM sX mk si sl sf ss (qm_lt4 hin_6)) (cw_mkR G ad lf chM chR chN chK md sp dS dL dR dF dP lS lL lR lF lP sS sL sT sD sM sX mk si sl sf ss (qm_lt4 hin_7))  h) (26 + 2 * a1.toNatClampNeg) (cw_mkR G ad lf chM chR chN chK md sp dS dL dR dF dP lS lL lR lF lP sS sL sT sD sM sX mk si sl sf ss (qm_lt4 hin_6)).1 rfl gX5_both_X1_darkCellsIn rfl kX1_darkCellsIn ⟨rfl, rfl⟩ ⟨Nat.le_of_ble_eq_true rfl, Nat.le_of_ble_eq_true rfl⟩ rfl (Nat.le_of_ble_eq_true rfl) dX5_both_121 (fun r_7 _ h => ?_)
              try dsimp only at h
              exact hret _ _ _ r_7 () h rfl dX5_both_124
            · replace h := h.2 c_5
              have n26_0 := lv_neT c_1 (a := 0) (by decide)
              have n26_1 := lv_neT c_3 (a := 1) (by decide)
              have n26_2 := lv_neT c_5 (a := 2) (by decide)
              refine v_tout C 125 dX5_both_26 (by omega) (by decide) ?_
              refine v_aload_n C dX5_both_125 rfl 0 rfl ?_
              refine v_get C iX5_both_5 0 rfl rfl 0 (by decide) mX5_both_w1 rfl rfl dX5_both_126 ?_
              refine v_iload_n C dX5_both_129 rfl 1 rfl ?_
              obtain ⟨hin_8, h⟩ := h
              refine v_aldG C 1 rfl hin_8 rfl dX5_both_130 ?_
              refine v_aload_n C dX5_both_131 rfl 0 rfl ?_
              refine v_get C iX5_both_5 0 rfl rfl 0 (by decide) mX5_both_w1 rfl rfl dX5_both_132 ?_
              refine v_iload_n C dX5_both_135 rfl 2 rfl ?_
              obtain ⟨hin_9, h⟩ := h
              refine v_aldG C 1 rfl hin_9 rfl dX5_both_136 ?_
              refine v_callVi C (c_Gr_touches l G ad (cw G ad lf chM chR chN chK md sp dS dL dR dF dP lS lL lR lF lP sS sL sT sD sM sX mk si sl sf ss) (26 + 2 * a1.toNatClampNeg) (26 + 2 * a2.toNatClampNeg) (cw_mkR G ad lf chM chR chN chK md sp dS dL dR dF dP lS lL lR lF lP sS sL sT sD sM sX mk si sl sf ss (qm_lt4 hin_8)) (cw_mkR G ad lf chM chR chN chK md sp dS dL dR dF dP lS lL lR lF lP sS sL sT sD sM sX mk si sl sf ss (qm_lt4 hin_9))  h) (26 + 2 * a1.toNatClampNeg) (cw_mkR G ad lf chM chR chN chK md sp dS dL dR dF dP lS lL lR lF lP sS sL sT sD sM sX mk si sl sf ss (qm_lt4 hin_8)).1 rfl gX5_both_X1_touches rfl kX1_touches ⟨rfl, rfl⟩ ⟨Nat.le_of_ble_eq_true rfl, Nat.le_of_ble_eq_true rfl⟩ rfl (Nat.le_of_ble_eq_true rfl) dX5_both_137 (fun r_8 _ h => ?_)
              try dsimp only at h
              refine v_if_eq C 147 dX5_both_140 (by decide) (fun c_6 => ?_) (fun c_6 => ?_)
              · replace h := h.1 c_6
                refine v_iconst C 0 dX5_both_147 (by decide) ?_
                exact hret _ _ _ 0 () h rfl dX5_both_148
              · replace h := h.2 c_6
                refine v_iconst C 1 dX5_both_143 (by decide) ?_
                refine v_goto C 148 dX5_both_144 (by decide) ?_
                exact hret _ _ _ 1 () h rfl dX5_both_148
      · replace h := h.1 c_7
        refine v_bipush C (-2) dX5_both_22 (by decide) ?_
        exact hret _ _ _ (-2) () h rfl dX5_both_24
-- QuarterMasks.sheet
def rmX5_sheet : Room := { frames := 3, cells := 0, slots := 0, locals := 85 }
theorem kX5_sheet : yX5_sheet.cls = RX5 ∧ yX5_sheet.cls ≠ "java/lang/invoke/MethodHandle" ∧ yX5_sheet.cls ≠ "java/lang/invoke/VarHandle" ∧ (parseMethodDescriptor yX5_sheet.desc).map (fun d => d.parameters.length) = some 3 := by decide +kernel
theorem mX5_sheet_w1 : Cond.fieldLink RX5 17 "QuarterMasks" "sheets" "[LQuarterMasks$Sheet;" ∈ wsX5_sheet := List.mem_of_getElem? (i := 1) rfl
theorem iX5_sheet_5 : ∀ w ∈ wsX50, w ∈ wsX5_sheet := fun w h => List.mem_cons_of_mem _ (List.mem_append_left _ (List.mem_append_right _ h))
def wp_Qm_sheet (lf : Int32) (si : Nat → IA) (sl : IA) (sf : IA) (ss : IA) (a1 : Int32) (a2 : Int32) (a3 : Int32) (Q : Int32 → Int32 → (Nat → IA) → IA → IA → IA → Prop) : Prop :=
  wp_Qm_isSheet a1 (fun r_1 => (r_1 = 0 → (Q (-2) lf si sl sf ss)) ∧ (¬ r_1 = 0 → (wp_Qm_within a2 3 (fun r_2 => (r_2 = 0 → (Q (-2) lf si sl sf ss)) ∧ (¬ r_2 = 0 → ((a3 ≤ 60 → ((0 ≤ a3 → (vp_in a1 4 ∧ (wp_Sh_begin (si a1.toNatClampNeg) a2 a3 (fun m_items_1 m_lost_1 m_form_1 m_size_1 => Q a3 lf (va_up si a1.toNatClampNeg m_items_1) (va_up sl a1.toNatClampNeg m_lost_1) (va_up sf a1.toNatClampNeg m_form_1) (va_up ss a1.toNatClampNeg m_size_1))))) ∧ (¬ 0 ≤ a3 → (wp_Qm_found 5 (fun r_3 m_lf_1 => Q r_3 m_lf_1 si sl sf ss))))) ∧ (¬ a3 ≤ 60 → (Q (-2) lf si sl sf ss))))))))
set_option maxHeartbeats 4000000 in
theorem c_Qm_sheet (l : Launch) (G : GG) (ad : Nat → Nat) (lf : Int32) (chM : IA) (chR : IA) (chN : Int32) (chK : Int32) (md : IA) (sp : IA) (dS : IA) (dL : IA) (dR : IA) (dF : IA) (dP : Int32) (lS : IA) (lL : IA) (lR : IA) (lF : IA) (lP : Int32) (sS : IA) (sL : IA) (sT : Int32) (sD : Int32) (sM : Int32) (sX : Int32) (mk : Nat → IA) (si : Nat → IA) (sl : IA) (sf : IA) (ss : IA) (a1 : Int32) (a2 : Int32) (a3 : Int32) {Q : Int32 → Int32 → (Nat → IA) → IA → IA → IA → Prop} (h : wp_Qm_sheet lf si sl sf ss a1 a2 a3 Q) : qm_MI l yX5_sheet wsX5_sheet rmX5_sheet G [.ref (ad 0), .int a1, .int a2, .int a3] (cw G ad lf chM chR chN chK md sp dS dL dR dF dP lS lL lR lF lP sS sL sT sD sM sX mk si sl sf ss) (fun (r : Int32) (u : Int32 × (Nat → IA) × IA × IA × IA) => Q r u.1 u.2.1 u.2.2.1 u.2.2.2.1 u.2.2.2.2) (fun (u : Int32 × (Nat → IA) × IA × IA × IA) => cw G ad u.1 chM chR chN chK md sp dS dL dR dF dP lS lL lR lF lP sS sL sT sD sM sX mk u.2.1 u.2.2.1 u.2.2.2.1 u.2.2.2.2) := by
  refine qm_mkI (cc := cX5_sheet) (maxL := 4) (by decide) rfl (Nat.le_of_ble_eq_true rfl) ?_
  intro X C hret
  replace C : qm_C G 4 X cX5_sheet wsX5_sheet RX5 := C
  refine v_lv (lv' := [(0, .ref (ad 0)), (1, .int a1), (2, .int a2), (3, .int a3)]) rfl ?_
  unfold wp_Qm_sheet at h
  refine v_iload_n C dX5_sheet_0 rfl 1 rfl ?_
  refine v_callSi C (c_Qm_isSheet l G (cw G ad lf chM chR chN chK md sp dS dL dR dF dP lS lL lR lF lP sS sL sT sD sM sX mk si sl sf ss) a1 h) gX5_sheet_X5_isSheet rfl kX5_isSheet ⟨rfl, rfl⟩ ⟨Nat.le_of_ble_eq_true rfl, Nat.le_of_ble_eq_true rfl⟩ rfl (Nat.le_of_ble_eq_true rfl) dX5_sheet_1 (fun r_1 _ h => ?_)
  try dsimp only at h
  refine v_if_eq C 21 dX5_sheet_4 (by decide) (fun c_4 => ?_) (fun c_4 => ?_)
  · replace h := h.1 c_4
    refine v_bipush C (-2) dX5_sheet_21 (by decide) ?_
    exact hret _ _ _ (-2) (lf, si, sl, sf, ss) h rfl dX5_sheet_23
  · replace h := h.2 c_4
    refine v_iload_n C dX5_sheet_7 rfl 2 rfl ?_
    refine v_iconst C 3 dX5_sheet_8 (by decide) ?_
    refine v_callSi C (c_Qm_within l G (cw G ad lf chM chR chN chK md sp dS dL dR dF dP lS lL lR lF lP sS sL sT sD sM sX mk si sl sf ss) a2 3 h) gX5_sheet_X5_within rfl kX5_within ⟨rfl, rfl⟩ ⟨Nat.le_of_ble_eq_true rfl, Nat.le_of_ble_eq_true rfl⟩ rfl (Nat.le_of_ble_eq_true rfl) dX5_sheet_9 (fun r_2 _ h => ?_)
    try dsimp only at h
    refine v_if_eq C 21 dX5_sheet_12 (by decide) (fun c_3 => ?_) (fun c_3 => ?_)
    · replace h := h.1 c_3
      refine v_bipush C (-2) dX5_sheet_21 (by decide) ?_
      exact hret _ _ _ (-2) (lf, si, sl, sf, ss) h rfl dX5_sheet_23
    · replace h := h.2 c_3
      refine v_iload_n C dX5_sheet_15 rfl 3 rfl ?_
      refine v_bipush C 60 dX5_sheet_16 (by decide) ?_
      refine v_icmp_le C 24 dX5_sheet_18 (by decide) (fun c_2 => ?_) (fun c_2 => ?_)
      · replace h := h.1 c_2
        refine v_iload_n C dX5_sheet_24 rfl 3 rfl ?_
        refine v_if_ge C 34 dX5_sheet_25 (by decide) (fun c_1 => ?_) (fun c_1 => ?_)
        · replace h := h.1 c_1
          refine v_aload_n C dX5_sheet_34 rfl 0 rfl ?_
          refine v_get C iX5_sheet_5 0 rfl rfl 1 (by decide) mX5_sheet_w1 rfl rfl dX5_sheet_35 ?_
          refine v_iload_n C dX5_sheet_38 rfl 1 rfl ?_
          obtain ⟨hin_1, h⟩ := h
          refine v_aldS C 2 rfl hin_1 rfl dX5_sheet_39 ?_
          refine v_iload_n C dX5_sheet_40 rfl 2 rfl ?_
          refine v_iload_n C dX5_sheet_41 rfl 3 rfl ?_
          refine v_world (ws' := cw G ad lf chM chR chN chK md sp dS dL dR dF dP lS lL lR lF lP sS sL sT sD sM sX mk (va_up si a1.toNatClampNeg (si a1.toNatClampNeg)) (va_up sl a1.toNatClampNeg (sl a1.toNatClampNeg)) (va_up sf a1.toNatClampNeg (sf a1.toNatClampNeg)) (va_up ss a1.toNatClampNeg (ss a1.toNatClampNeg))) (by simp only [va_upI]) ?_
          refine v_callVv C (c_Sh_begin l G ad (fun y0 y1 y2 y3 => cw G ad lf chM chR chN chK md sp dS dL dR dF dP lS lL lR lF lP sS sL sT sD sM sX mk (va_up si a1.toNatClampNeg y0) (va_up sl a1.toNatClampNeg y1) (va_up sf a1.toNatClampNeg y2) (va_up ss a1.toNatClampNeg y3)) (34 + 2 * a1.toNatClampNeg) (cw_shW G ad lf chM chR chN chK md sp dS dL dR dF dP lS lL lR lF lP sS sL sT sD sM sX mk si sl sf ss (qm_lt4 hin_1)) (si a1.toNatClampNeg) (sl a1.toNatClampNeg) (sf a1.toNatClampNeg) (ss a1.toNatClampNeg) a2 a3 h) (34 + 2 * a1.toNatClampNeg) (cw_shR G ad lf chM chR chN chK md sp dS dL dR dF dP lS lL lR lF lP sS sL sT sD sM sX mk (va_up si a1.toNatClampNeg (si a1.toNatClampNeg)) (va_up sl a1.toNatClampNeg (sl a1.toNatClampNeg)) (va_up sf a1.toNatClampNeg (sf a1.toNatClampNeg)) (va_up ss a1.toNatClampNeg (ss a1.toNatClampNeg)) (qm_lt4 hin_1)).1 rfl gX5_sheet_X3_begin rfl kX3_begin ⟨rfl, rfl⟩ ⟨Nat.le_of_ble_eq_true rfl, Nat.le_of_ble_eq_true rfl⟩ rfl (Nat.le_of_ble_eq_true rfl) dX5_sheet_42 (fun u h => ?_)
          obtain ⟨m_items_1, m_lost_1, m_form_1, m_size_1⟩ := u
          try dsimp only at h
          refine v_world (ws' := cw G ad lf chM chR chN chK md sp dS dL dR dF dP lS lL lR lF lP sS sL sT sD sM sX mk (va_up si a1.toNatClampNeg m_items_1) (va_up sl a1.toNatClampNeg m_lost_1) (va_up sf a1.toNatClampNeg m_form_1) (va_up ss a1.toNatClampNeg m_size_1)) (by simp only [va_upI]) ?_
          refine v_iload_n C dX5_sheet_45 rfl 3 rfl ?_
          exact hret _ _ _ a3 (lf, (va_up si a1.toNatClampNeg m_items_1), (va_up sl a1.toNatClampNeg m_lost_1), (va_up sf a1.toNatClampNeg m_form_1), (va_up ss a1.toNatClampNeg m_size_1)) h rfl dX5_sheet_46
        · replace h := h.2 c_1
          refine v_aload_n C dX5_sheet_28 rfl 0 rfl ?_
          refine v_iconst C 5 dX5_sheet_29 (by decide) ?_
          refine v_callVi C (c_Qm_found l G ad lf chM chR chN chK md sp dS dL dR dF dP lS lL lR lF lP sS sL sT sD sM sX mk si sl sf ss 5 h) 0 rfl rfl gX5_sheet_X5_found rfl kX5_found ⟨rfl, rfl⟩ ⟨Nat.le_of_ble_eq_true rfl, Nat.le_of_ble_eq_true rfl⟩ rfl (Nat.le_of_ble_eq_true rfl) dX5_sheet_30 (fun r_3 m_lf_1 h => ?_)
          try dsimp only at h
          refine v_world (ws' := cw G ad m_lf_1 chM chR chN chK md sp dS dL dR dF dP lS lL lR lF lP sS sL sT sD sM sX mk si sl sf ss) rfl ?_
          exact hret _ _ _ r_3 (m_lf_1, si, sl, sf, ss) h rfl dX5_sheet_33
      · replace h := h.2 c_2
        refine v_bipush C (-2) dX5_sheet_21 (by decide) ?_
        exact hret _ _ _ (-2) (lf, si, sl, sf, ss) h rfl dX5_sheet_23
-- QuarterMasks.lose
def rmX5_lose : Room := { frames := 3, cells := 0, slots := 0, locals := 81 }
theorem kX5_lose : yX5_lose.cls = RX5 ∧ yX5_lose.cls ≠ "java/lang/invoke/MethodHandle" ∧ yX5_lose.cls ≠ "java/lang/invoke/VarHandle" ∧ (parseMethodDescriptor yX5_lose.desc).map (fun d => d.parameters.length) = some 1 := by decide +kernel
theorem mX5_lose_w1 : Cond.fieldLink RX5 17 "QuarterMasks" "sheets" "[LQuarterMasks$Sheet;" ∈ wsX5_lose := List.mem_of_getElem? (i := 1) rfl
theorem iX5_lose_5 : ∀ w ∈ wsX50, w ∈ wsX5_lose := fun w h => List.mem_cons_of_mem _ (List.mem_append_left _ (List.mem_append_right _ h))
theorem iX5_lose_3 : ∀ w ∈ wsX30, w ∈ wsX5_lose := fun w h => List.mem_cons_of_mem _ (List.mem_append_right _ h)
def wp_Qm_lose (lf : Int32) (sl : IA) (ss : IA) (a1 : Int32) (Q : Int32 → Int32 → IA → Prop) : Prop :=
  wp_Qm_isSheet a1 (fun r_1 => (r_1 = 0 → (Q (-2) lf sl)) ∧ (¬ r_1 = 0 → (vp_in a1 4 ∧ (((sl a1.toNatClampNeg) = 0 → (vp_in a1 4 ∧ (vp_in a1 4 ∧ (Q (ss a1.toNatClampNeg) lf (va_up sl a1.toNatClampNeg 1))))) ∧ (¬ (sl a1.toNatClampNeg) = 0 → (wp_Qm_found 1 (fun r_2 m_lf_1 => Q r_2 m_lf_1 sl)))))))
set_option maxHeartbeats 4000000 in
theorem c_Qm_lose (l : Launch) (G : GG) (ad : Nat → Nat) (lf : Int32) (chM : IA) (chR : IA) (chN : Int32) (chK : Int32) (md : IA) (sp : IA) (dS : IA) (dL : IA) (dR : IA) (dF : IA) (dP : Int32) (lS : IA) (lL : IA) (lR : IA) (lF : IA) (lP : Int32) (sS : IA) (sL : IA) (sT : Int32) (sD : Int32) (sM : Int32) (sX : Int32) (mk : Nat → IA) (si : Nat → IA) (sl : IA) (sf : IA) (ss : IA) (a1 : Int32) {Q : Int32 → Int32 → IA → Prop} (h : wp_Qm_lose lf sl ss a1 Q) : qm_MI l yX5_lose wsX5_lose rmX5_lose G [.ref (ad 0), .int a1] (cw G ad lf chM chR chN chK md sp dS dL dR dF dP lS lL lR lF lP sS sL sT sD sM sX mk si sl sf ss) (fun (r : Int32) (u : Int32 × IA) => Q r u.1 u.2) (fun (u : Int32 × IA) => cw G ad u.1 chM chR chN chK md sp dS dL dR dF dP lS lL lR lF lP sS sL sT sD sM sX mk si u.2 sf ss) := by
  refine qm_mkI (cc := cX5_lose) (maxL := 2) (by decide) rfl (Nat.le_of_ble_eq_true rfl) ?_
  intro X C hret
  replace C : qm_C G 2 X cX5_lose wsX5_lose RX5 := C
  refine v_lv (lv' := [(0, .ref (ad 0)), (1, .int a1)]) rfl ?_
  unfold wp_Qm_lose at h
  refine v_iload_n C dX5_lose_0 rfl 1 rfl ?_
  refine v_callSi C (c_Qm_isSheet l G (cw G ad lf chM chR chN chK md sp dS dL dR dF dP lS lL lR lF lP sS sL sT sD sM sX mk si sl sf ss) a1 h) gX5_lose_X5_isSheet rfl kX5_isSheet ⟨rfl, rfl⟩ ⟨Nat.le_of_ble_eq_true rfl, Nat.le_of_ble_eq_true rfl⟩ rfl (Nat.le_of_ble_eq_true rfl) dX5_lose_1 (fun r_1 _ h => ?_)
  try dsimp only at h
  refine v_if_ne C 10 dX5_lose_4 (by decide) (fun c_2 => ?_) (fun c_2 => ?_)
  · replace h := h.2 c_2
    refine v_aload_n C dX5_lose_10 rfl 0 rfl ?_
    refine v_get C iX5_lose_5 0 rfl rfl 1 (by decide) mX5_lose_w1 rfl rfl dX5_lose_11 ?_
    refine v_iload_n C dX5_lose_14 rfl 1 rfl ?_
    obtain ⟨hin_1, h⟩ := h
    refine v_aldS C 2 rfl hin_1 rfl dX5_lose_15 ?_
    refine v_getN C iX5_lose_3 (34 + 2 * a1.toNatClampNeg) (cw_shR G ad lf chM chR chN chK md sp dS dL dR dF dP lS lL lR lF lP sS sL sT sD sM sX mk si sl sf ss (qm_lt4 hin_1)).1 rfl 1 (by decide) (fun _ h => h.2.2.2.2.2.2.2.2.2.2.2.1) rfl rfl dX5_lose_16 ?_
    refine v_if_eq C 28 dX5_lose_19 (by decide) (fun c_1 => ?_) (fun c_1 => ?_)
    · replace h := h.1 c_1
      refine v_aload_n C dX5_lose_28 rfl 0 rfl ?_
      refine v_get C iX5_lose_5 0 rfl rfl 1 (by decide) mX5_lose_w1 rfl rfl dX5_lose_29 ?_
      refine v_iload_n C dX5_lose_32 rfl 1 rfl ?_
      obtain ⟨hin_2, h⟩ := h
      refine v_aldS C 2 rfl hin_2 rfl dX5_lose_33 ?_
      refine v_iconst C 1 dX5_lose_34 (by decide) ?_
      refine v_putN C iX5_lose_3 tyX3_ok nmX3 (34 + 2 * a1.toNatClampNeg) (cw_shR G ad lf chM chR chN chK md sp dS dL dR dF dP lS lL lR lF lP sS sL sT sD sM sX mk si sl sf ss (qm_lt4 hin_2)).1 rfl 1 (by decide) (fun _ h => h.2.2.2.2.2.2.2.2.2.2.2.1) rfl rfl rfl rfl rfl (Nat.le_of_ble_eq_true rfl) (ws' := cw G ad lf chM chR chN chK md sp dS dL dR dF dP lS lL lR lF lP sS sL sT sD sM sX mk si (va_up sl a1.toNatClampNeg 1) sf ss) (by have hq := ((cw_shW G ad lf chM chR chN chK md sp dS dL dR dF dP lS lL lR lF lP sS sL sT sD sM sX mk si sl sf ss (qm_lt4 hin_2)) (si a1.toNatClampNeg) (sl a1.toNatClampNeg) (sf a1.toNatClampNeg) (ss a1.toNatClampNeg)).2.2.1 1; simp only [va_upI] at hq; exact hq) dX5_lose_35 ?_
      refine v_aload_n C dX5_lose_38 rfl 0 rfl ?_
      refine v_get C iX5_lose_5 0 rfl rfl 1 (by decide) mX5_lose_w1 rfl rfl dX5_lose_39 ?_
      refine v_iload_n C dX5_lose_42 rfl 1 rfl ?_
      obtain ⟨hin_3, h⟩ := h
      refine v_aldS C 2 rfl hin_3 rfl dX5_lose_43 ?_
      refine v_getN C iX5_lose_3 (34 + 2 * a1.toNatClampNeg) (cw_shR G ad lf chM chR chN chK md sp dS dL dR dF dP lS lL lR lF lP sS sL sT sD sM sX mk si (va_up sl a1.toNatClampNeg 1) sf ss (qm_lt4 hin_3)).1 rfl 3 (by decide) (fun _ h => h.2.2.2.2.2.2.2.2.2.2.2.2.2.1) rfl rfl dX5_lose_44 ?_
      exact hret _ _ _ (ss a1.toNatClampNeg) (lf, (va_up sl a1.toNatClampNeg 1)) h rfl dX5_lose_47
    · replace h := h.2 c_1
      refine v_aload_n C dX5_lose_22 rfl 0 rfl ?_
      refine v_iconst C 1 dX5_lose_23 (by decide) ?_
      refine v_callVi C (c_Qm_found l G ad lf chM chR chN chK md sp dS dL dR dF dP lS lL lR lF lP sS sL sT sD sM sX mk si sl sf ss 1 h) 0 rfl rfl gX5_lose_X5_found rfl kX5_found ⟨rfl, rfl⟩ ⟨Nat.le_of_ble_eq_true rfl, Nat.le_of_ble_eq_true rfl⟩ rfl (Nat.le_of_ble_eq_true rfl) dX5_lose_24 (fun r_2 m_lf_1 h => ?_)
      try dsimp only at h
      refine v_world (ws' := cw G ad m_lf_1 chM chR chN chK md sp dS dL dR dF dP lS lL lR lF lP sS sL sT sD sM sX mk si sl sf ss) rfl ?_
      exact hret _ _ _ r_2 (m_lf_1, sl) h rfl dX5_lose_27
  · replace h := h.1 c_2
    refine v_bipush C (-2) dX5_lose_7 (by decide) ?_
    exact hret _ _ _ (-2) (lf, sl) h rfl dX5_lose_9
-- QuarterMasks.lay
def rmX5_lay : Room := { frames := 3, cells := 0, slots := 0, locals := 83 }
theorem kX5_lay : yX5_lay.cls = RX5 ∧ yX5_lay.cls ≠ "java/lang/invoke/MethodHandle" ∧ yX5_lay.cls ≠ "java/lang/invoke/VarHandle" ∧ (parseMethodDescriptor yX5_lay.desc).map (fun d => d.parameters.length) = some 4 := by decide +kernel
theorem mX5_lay_w1 : Cond.fieldLink RX5 17 "QuarterMasks" "sheets" "[LQuarterMasks$Sheet;" ∈ wsX5_lay := List.mem_of_getElem? (i := 1) rfl
theorem iX5_lay_5 : ∀ w ∈ wsX50, w ∈ wsX5_lay := fun w h => List.mem_cons_of_mem _ (List.mem_append_left _ (List.mem_append_right _ h))
def wp_Qm_lay (lf : Int32) (si : Nat → IA) (sl : IA) (sf : IA) (ss : IA) (a1 : Int32) (a2 : Int32) (a3 : Int32) (a4 : Int32) (Q : Int32 → Int32 → (Nat → IA) → Prop) : Prop :=
  wp_Qm_isSheet a1 (fun r_1 => (r_1 = 0 → (Q (-2) lf si)) ∧ (¬ r_1 = 0 → (wp_Qm_within a2 3 (fun r_2 => (r_2 = 0 → (Q (-2) lf si)) ∧ (¬ r_2 = 0 → (vp_in a1 4 ∧ (wp_Qm_findingAt (sl a1.toNatClampNeg) (sf a1.toNatClampNeg) (ss a1.toNatClampNeg) a2 a3 (fun r_3 => (r_3 = 0 → (vp_in a1 4 ∧ (wp_Sh_setItem (si a1.toNatClampNeg) (sf a1.toNatClampNeg) (ss a1.toNatClampNeg) a3 a4 (fun m_items_1 => Q 1 lf (va_up si a1.toNatClampNeg m_items_1))))) ∧ (¬ r_3 = 0 → (wp_Qm_found r_3 (fun r_4 m_lf_1 => Q r_4 m_lf_1 si)))))))))))
set_option maxHeartbeats 4000000 in
theorem c_Qm_lay (l : Launch) (G : GG) (ad : Nat → Nat) (lf : Int32) (chM : IA) (chR : IA) (chN : Int32) (chK : Int32) (md : IA) (sp : IA) (dS : IA) (dL : IA) (dR : IA) (dF : IA) (dP : Int32) (lS : IA) (lL : IA) (lR : IA) (lF : IA) (lP : Int32) (sS : IA) (sL : IA) (sT : Int32) (sD : Int32) (sM : Int32) (sX : Int32) (mk : Nat → IA) (si : Nat → IA) (sl : IA) (sf : IA) (ss : IA) (a1 : Int32) (a2 : Int32) (a3 : Int32) (a4 : Int32) {Q : Int32 → Int32 → (Nat → IA) → Prop} (h : wp_Qm_lay lf si sl sf ss a1 a2 a3 a4 Q) : qm_MI l yX5_lay wsX5_lay rmX5_lay G [.ref (ad 0), .int a1, .int a2, .int a3, .int a4] (cw G ad lf chM chR chN chK md sp dS dL dR dF dP lS lL lR lF lP sS sL sT sD sM sX mk si sl sf ss) (fun (r : Int32) (u : Int32 × (Nat → IA)) => Q r u.1 u.2) (fun (u : Int32 × (Nat → IA)) => cw G ad u.1 chM chR chN chK md sp dS dL dR dF dP lS lL lR lF lP sS sL sT sD sM sX mk u.2 sl sf ss) := by
  refine qm_mkI (cc := cX5_lay) (maxL := 6) (by decide) rfl (Nat.le_of_ble_eq_true rfl) ?_
  intro X C hret
  replace C : qm_C G 6 X cX5_lay wsX5_lay RX5 := C
  refine v_lv (lv' := [(0, .ref (ad 0)), (1, .int a1), (2, .int a2), (3, .int a3), (4, .int a4)]) rfl ?_
  unfold wp_Qm_lay at h
  refine v_iload_n C dX5_lay_0 rfl 1 rfl ?_
  refine v_callSi C (c_Qm_isSheet l G (cw G ad lf chM chR chN chK md sp dS dL dR dF dP lS lL lR lF lP sS sL sT sD sM sX mk si sl sf ss) a1 h) gX5_lay_X5_isSheet rfl kX5_isSheet ⟨rfl, rfl⟩ ⟨Nat.le_of_ble_eq_true rfl, Nat.le_of_ble_eq_true rfl⟩ rfl (Nat.le_of_ble_eq_true rfl) dX5_lay_1 (fun r_1 _ h => ?_)
  try dsimp only at h
  refine v_if_eq C 15 dX5_lay_4 (by decide) (fun c_3 => ?_) (fun c_3 => ?_)
  · replace h := h.1 c_3
    refine v_bipush C (-2) dX5_lay_15 (by decide) ?_
    exact hret _ _ _ (-2) (lf, si) h rfl dX5_lay_17
  · replace h := h.2 c_3
    refine v_iload_n C dX5_lay_7 rfl 2 rfl ?_
    refine v_iconst C 3 dX5_lay_8 (by decide) ?_
    refine v_callSi C (c_Qm_within l G (cw G ad lf chM chR chN chK md sp dS dL dR dF dP lS lL lR lF lP sS sL sT sD sM sX mk si sl sf ss) a2 3 h) gX5_lay_X5_within rfl kX5_within ⟨rfl, rfl⟩ ⟨Nat.le_of_ble_eq_true rfl, Nat.le_of_ble_eq_true rfl⟩ rfl (Nat.le_of_ble_eq_true rfl) dX5_lay_9 (fun r_2 _ h => ?_)
    try dsimp only at h
    refine v_if_ne C 18 dX5_lay_12 (by decide) (fun c_2 => ?_) (fun c_2 => ?_)
    · replace h := h.2 c_2
      refine v_aload_n C dX5_lay_18 rfl 0 rfl ?_
      refine v_get C iX5_lay_5 0 rfl rfl 1 (by decide) mX5_lay_w1 rfl rfl dX5_lay_19 ?_
      refine v_iload_n C dX5_lay_22 rfl 1 rfl ?_
      obtain ⟨hin_1, h⟩ := h
      refine v_aldS C 2 rfl hin_1 rfl dX5_lay_23 ?_
      refine v_iload_n C dX5_lay_24 rfl 2 rfl ?_
      refine v_iload_n C dX5_lay_25 rfl 3 rfl ?_
      refine v_callSi C (c_Qm_findingAt l G ad (cw G ad lf chM chR chN chK md sp dS dL dR dF dP lS lL lR lF lP sS sL sT sD sM sX mk si sl sf ss) (34 + 2 * a1.toNatClampNeg) (cw_shR G ad lf chM chR chN chK md sp dS dL dR dF dP lS lL lR lF lP sS sL sT sD sM sX mk si sl sf ss (qm_lt4 hin_1))  a2 a3 h) gX5_lay_X5_findingAt rfl kX5_findingAt ⟨rfl, rfl⟩ ⟨Nat.le_of_ble_eq_true rfl, Nat.le_of_ble_eq_true rfl⟩ rfl (Nat.le_of_ble_eq_true rfl) dX5_lay_26 (fun r_3 _ h => ?_)
      try dsimp only at h
      refine v_istore C [(5, .int r_3), (0, .ref (ad 0)), (1, .int a1), (2, .int a2), (3, .int a3), (4, .int a4)] dX5_lay_29 (by decide) rfl ?_
      refine v_iload C dX5_lay_31 0 rfl ?_
      refine v_if_eq C 43 dX5_lay_33 (by decide) (fun c_1 => ?_) (fun c_1 => ?_)
      · replace h := h.1 c_1
        refine v_aload_n C dX5_lay_43 rfl 1 rfl ?_
        refine v_get C iX5_lay_5 0 rfl rfl 1 (by decide) mX5_lay_w1 rfl rfl dX5_lay_44 ?_
        refine v_iload_n C dX5_lay_47 rfl 2 rfl ?_
        obtain ⟨hin_2, h⟩ := h
        refine v_aldS C 2 rfl hin_2 rfl dX5_lay_48 ?_
        refine v_iload_n C dX5_lay_49 rfl 4 rfl ?_
        refine v_iload C dX5_lay_50 5 rfl ?_
        refine v_world (ws' := cw G ad lf chM chR chN chK md sp dS dL dR dF dP lS lL lR lF lP sS sL sT sD sM sX mk (va_up si a1.toNatClampNeg (si a1.toNatClampNeg)) (va_up sl a1.toNatClampNeg (sl a1.toNatClampNeg)) (va_up sf a1.toNatClampNeg (sf a1.toNatClampNeg)) (va_up ss a1.toNatClampNeg (ss a1.toNatClampNeg))) (by simp only [va_upI]) ?_
        refine v_callVv C (c_Sh_setItem l G ad (fun y0 y1 y2 y3 => cw G ad lf chM chR chN chK md sp dS dL dR dF dP lS lL lR lF lP sS sL sT sD sM sX mk (va_up si a1.toNatClampNeg y0) (va_up sl a1.toNatClampNeg y1) (va_up sf a1.toNatClampNeg y2) (va_up ss a1.toNatClampNeg y3)) (34 + 2 * a1.toNatClampNeg) (cw_shW G ad lf chM chR chN chK md sp dS dL dR dF dP lS lL lR lF lP sS sL sT sD sM sX mk si sl sf ss (qm_lt4 hin_2)) (si a1.toNatClampNeg) (sl a1.toNatClampNeg) (sf a1.toNatClampNeg) (ss a1.toNatClampNeg) a3 a4 h) (34 + 2 * a1.toNatClampNeg) (cw_shR G ad lf chM chR chN chK md sp dS dL dR dF dP lS lL lR lF lP sS sL sT sD sM sX mk (va_up si a1.toNatClampNeg (si a1.toNatClampNeg)) (va_up sl a1.toNatClampNeg (sl a1.toNatClampNeg)) (va_up sf a1.toNatClampNeg (sf a1.toNatClampNeg)) (va_up ss a1.toNatClampNeg (ss a1.toNatClampNeg)) (qm_lt4 hin_2)).1 rfl gX5_lay_X3_setItem rfl kX3_setItem ⟨rfl, rfl⟩ ⟨Nat.le_of_ble_eq_true rfl, Nat.le_of_ble_eq_true rfl⟩ rfl (Nat.le_of_ble_eq_true rfl) dX5_lay_52 (fun m_items_1 h => ?_)
        try dsimp only at h
        refine v_world (ws' := cw G ad lf chM chR chN chK md sp dS dL dR dF dP lS lL lR lF lP sS sL sT sD sM sX mk (va_up si a1.toNatClampNeg m_items_1) sl sf ss) (by simp only [va_upI]) ?_
        refine v_iconst C 1 dX5_lay_55 (by decide) ?_
        exact hret _ _ _ 1 (lf, (va_up si a1.toNatClampNeg m_items_1)) h rfl dX5_lay_56
      · replace h := h.2 c_1
        refine v_aload_n C dX5_lay_36 rfl 1 rfl ?_
        refine v_iload C dX5_lay_37 0 rfl ?_
        refine v_callVi C (c_Qm_found l G ad lf chM chR chN chK md sp dS dL dR dF dP lS lL lR lF lP sS sL sT sD sM sX mk si sl sf ss r_3 h) 0 rfl rfl gX5_lay_X5_found rfl kX5_found ⟨rfl, rfl⟩ ⟨Nat.le_of_ble_eq_true rfl, Nat.le_of_ble_eq_true rfl⟩ rfl (Nat.le_of_ble_eq_true rfl) dX5_lay_39 (fun r_4 m_lf_1 h => ?_)
        try dsimp only at h
        refine v_world (ws' := cw G ad m_lf_1 chM chR chN chK md sp dS dL dR dF dP lS lL lR lF lP sS sL sT sD sM sX mk si sl sf ss) rfl ?_
        exact hret _ _ _ r_4 (m_lf_1, si) h rfl dX5_lay_42
    · replace h := h.1 c_2
      refine v_bipush C (-2) dX5_lay_15 (by decide) ?_
      exact hret _ _ _ (-2) (lf, si) h rfl dX5_lay_17
-- QuarterMasks.get
def rmX5_get : Room := { frames := 3, cells := 0, slots := 0, locals := 83 }
theorem kX5_get : yX5_get.cls = RX5 ∧ yX5_get.cls ≠ "java/lang/invoke/MethodHandle" ∧ yX5_get.cls ≠ "java/lang/invoke/VarHandle" ∧ (parseMethodDescriptor yX5_get.desc).map (fun d => d.parameters.length) = some 3 := by decide +kernel
theorem mX5_get_w1 : Cond.constant RX5 210 (-2147483648) ∈ wsX5_get := List.mem_of_getElem? (i := 1) rfl
theorem mX5_get_w2 : Cond.fieldLink RX5 17 "QuarterMasks" "sheets" "[LQuarterMasks$Sheet;" ∈ wsX5_get := List.mem_of_getElem? (i := 2) rfl
theorem iX5_get_5 : ∀ w ∈ wsX50, w ∈ wsX5_get := fun w h => List.mem_cons_of_mem _ (List.mem_append_left _ (List.mem_append_right _ h))
theorem mX5_get_w3 : Cond.fieldLink RX5 53 "QuarterMasks" "latestFinding" "I" ∈ wsX5_get := List.mem_of_getElem? (i := 3) rfl
def wp_Qm_get (lf : Int32) (si : Nat → IA) (sl : IA) (sf : IA) (ss : IA) (a1 : Int32) (a2 : Int32) (a3 : Int32) (Q : Int32 → Int32 → Prop) : Prop :=
  wp_Qm_isSheet a1 (fun r_1 => (r_1 = 0 → (Q (-2147483648) lf)) ∧ (¬ r_1 = 0 → (wp_Qm_within a2 3 (fun r_2 => (r_2 = 0 → (Q (-2147483648) lf)) ∧ (¬ r_2 = 0 → (vp_in a1 4 ∧ (wp_Qm_findingAt (sl a1.toNatClampNeg) (sf a1.toNatClampNeg) (ss a1.toNatClampNeg) a2 a3 (fun r_3 => (r_3 = 0 → (vp_in a1 4 ∧ (wp_Sh_item (si a1.toNatClampNeg) (ss a1.toNatClampNeg) a3 (fun r_4 => Q r_4 lf)))) ∧ (¬ r_3 = 0 → (Q (-2147483648) r_3))))))))))
set_option maxHeartbeats 4000000 in
theorem c_Qm_get (l : Launch) (G : GG) (ad : Nat → Nat) (lf : Int32) (chM : IA) (chR : IA) (chN : Int32) (chK : Int32) (md : IA) (sp : IA) (dS : IA) (dL : IA) (dR : IA) (dF : IA) (dP : Int32) (lS : IA) (lL : IA) (lR : IA) (lF : IA) (lP : Int32) (sS : IA) (sL : IA) (sT : Int32) (sD : Int32) (sM : Int32) (sX : Int32) (mk : Nat → IA) (si : Nat → IA) (sl : IA) (sf : IA) (ss : IA) (a1 : Int32) (a2 : Int32) (a3 : Int32) {Q : Int32 → Int32 → Prop} (h : wp_Qm_get lf si sl sf ss a1 a2 a3 Q) : qm_MI l yX5_get wsX5_get rmX5_get G [.ref (ad 0), .int a1, .int a2, .int a3] (cw G ad lf chM chR chN chK md sp dS dL dR dF dP lS lL lR lF lP sS sL sT sD sM sX mk si sl sf ss) (fun (r : Int32) (u : Int32) => Q r u) (fun (u : Int32) => cw G ad u chM chR chN chK md sp dS dL dR dF dP lS lL lR lF lP sS sL sT sD sM sX mk si sl sf ss) := by
  refine qm_mkI (cc := cX5_get) (maxL := 5) (by decide) rfl (Nat.le_of_ble_eq_true rfl) ?_
  intro X C hret
  replace C : qm_C G 5 X cX5_get wsX5_get RX5 := C
  refine v_lv (lv' := [(0, .ref (ad 0)), (1, .int a1), (2, .int a2), (3, .int a3)]) rfl ?_
  unfold wp_Qm_get at h
  refine v_iload_n C dX5_get_0 rfl 1 rfl ?_
  refine v_callSi C (c_Qm_isSheet l G (cw G ad lf chM chR chN chK md sp dS dL dR dF dP lS lL lR lF lP sS sL sT sD sM sX mk si sl sf ss) a1 h) gX5_get_X5_isSheet rfl kX5_isSheet ⟨rfl, rfl⟩ ⟨Nat.le_of_ble_eq_true rfl, Nat.le_of_ble_eq_true rfl⟩ rfl (Nat.le_of_ble_eq_true rfl) dX5_get_1 (fun r_1 _ h => ?_)
  try dsimp only at h
  refine v_if_eq C 15 dX5_get_4 (by decide) (fun c_3 => ?_) (fun c_3 => ?_)
  · replace h := h.1 c_3
    refine v_ldc C (-2147483648) mX5_get_w1 dX5_get_15 ?_
    exact hret _ _ _ (-2147483648) lf h rfl dX5_get_17
  · replace h := h.2 c_3
    refine v_iload_n C dX5_get_7 rfl 2 rfl ?_
    refine v_iconst C 3 dX5_get_8 (by decide) ?_
    refine v_callSi C (c_Qm_within l G (cw G ad lf chM chR chN chK md sp dS dL dR dF dP lS lL lR lF lP sS sL sT sD sM sX mk si sl sf ss) a2 3 h) gX5_get_X5_within rfl kX5_within ⟨rfl, rfl⟩ ⟨Nat.le_of_ble_eq_true rfl, Nat.le_of_ble_eq_true rfl⟩ rfl (Nat.le_of_ble_eq_true rfl) dX5_get_9 (fun r_2 _ h => ?_)
    try dsimp only at h
    refine v_if_ne C 18 dX5_get_12 (by decide) (fun c_2 => ?_) (fun c_2 => ?_)
    · replace h := h.2 c_2
      refine v_aload_n C dX5_get_18 rfl 0 rfl ?_
      refine v_get C iX5_get_5 0 rfl rfl 1 (by decide) mX5_get_w2 rfl rfl dX5_get_19 ?_
      refine v_iload_n C dX5_get_22 rfl 1 rfl ?_
      obtain ⟨hin_1, h⟩ := h
      refine v_aldS C 2 rfl hin_1 rfl dX5_get_23 ?_
      refine v_iload_n C dX5_get_24 rfl 2 rfl ?_
      refine v_iload_n C dX5_get_25 rfl 3 rfl ?_
      refine v_callSi C (c_Qm_findingAt l G ad (cw G ad lf chM chR chN chK md sp dS dL dR dF dP lS lL lR lF lP sS sL sT sD sM sX mk si sl sf ss) (34 + 2 * a1.toNatClampNeg) (cw_shR G ad lf chM chR chN chK md sp dS dL dR dF dP lS lL lR lF lP sS sL sT sD sM sX mk si sl sf ss (qm_lt4 hin_1))  a2 a3 h) gX5_get_X5_findingAt rfl kX5_findingAt ⟨rfl, rfl⟩ ⟨Nat.le_of_ble_eq_true rfl, Nat.le_of_ble_eq_true rfl⟩ rfl (Nat.le_of_ble_eq_true rfl) dX5_get_26 (fun r_3 _ h => ?_)
      try dsimp only at h
      refine v_istore C [(4, .int r_3), (0, .ref (ad 0)), (1, .int a1), (2, .int a2), (3, .int a3)] dX5_get_29 (by decide) rfl ?_
      refine v_iload C dX5_get_31 0 rfl ?_
      refine v_if_eq C 45 dX5_get_33 (by decide) (fun c_1 => ?_) (fun c_1 => ?_)
      · replace h := h.1 c_1
        refine v_aload_n C dX5_get_45 rfl 1 rfl ?_
        refine v_get C iX5_get_5 0 rfl rfl 1 (by decide) mX5_get_w2 rfl rfl dX5_get_46 ?_
        refine v_iload_n C dX5_get_49 rfl 2 rfl ?_
        obtain ⟨hin_2, h⟩ := h
        refine v_aldS C 2 rfl hin_2 rfl dX5_get_50 ?_
        refine v_iload_n C dX5_get_51 rfl 4 rfl ?_
        refine v_callVi C (c_Sh_item l G ad (cw G ad lf chM chR chN chK md sp dS dL dR dF dP lS lL lR lF lP sS sL sT sD sM sX mk si sl sf ss) (34 + 2 * a1.toNatClampNeg) (cw_shR G ad lf chM chR chN chK md sp dS dL dR dF dP lS lL lR lF lP sS sL sT sD sM sX mk si sl sf ss (qm_lt4 hin_2))  a3 h) (34 + 2 * a1.toNatClampNeg) (cw_shR G ad lf chM chR chN chK md sp dS dL dR dF dP lS lL lR lF lP sS sL sT sD sM sX mk si sl sf ss (qm_lt4 hin_2)).1 rfl gX5_get_X3_item rfl kX3_item ⟨rfl, rfl⟩ ⟨Nat.le_of_ble_eq_true rfl, Nat.le_of_ble_eq_true rfl⟩ rfl (Nat.le_of_ble_eq_true rfl) dX5_get_52 (fun r_4 _ h => ?_)
        try dsimp only at h
        exact hret _ _ _ r_4 lf h rfl dX5_get_55
      · replace h := h.2 c_1
        refine v_aload_n C dX5_get_36 rfl 1 rfl ?_
        refine v_iload C dX5_get_37 0 rfl ?_
        refine v_put C iX5_get_5 tyX5_ok nmX5 0 rfl rfl 8 (by decide) mX5_get_w3 rfl rfl rfl rfl rfl (Nat.le_of_ble_eq_true rfl) (ws' := cw G ad r_3 chM chR chN chK md sp dS dL dR dF dP lS lL lR lF lP sS sL sT sD sM sX mk si sl sf ss) rfl dX5_get_39 ?_
        refine v_ldc C (-2147483648) mX5_get_w1 dX5_get_42 ?_
        exact hret _ _ _ (-2147483648) r_3 h rfl dX5_get_44
    · replace h := h.1 c_2
      refine v_ldc C (-2147483648) mX5_get_w1 dX5_get_15 ?_
      exact hret _ _ _ (-2147483648) lf h rfl dX5_get_17
-- QuarterMasks.copy
def rmX5_copy : Room := { frames := 3, cells := 0, slots := 0, locals := 81 }
theorem kX5_copy : yX5_copy.cls = RX5 ∧ yX5_copy.cls ≠ "java/lang/invoke/MethodHandle" ∧ yX5_copy.cls ≠ "java/lang/invoke/VarHandle" ∧ (parseMethodDescriptor yX5_copy.desc).map (fun d => d.parameters.length) = some 5 := by decide +kernel
theorem mX5_copy_w1 : Cond.fieldLink RX5 17 "QuarterMasks" "sheets" "[LQuarterMasks$Sheet;" ∈ wsX5_copy := List.mem_of_getElem? (i := 1) rfl
theorem iX5_copy_5 : ∀ w ∈ wsX50, w ∈ wsX5_copy := fun w h => List.mem_cons_of_mem _ (List.mem_append_left _ (List.mem_append_right _ h))
theorem iX5_copy_3 : ∀ w ∈ wsX30, w ∈ wsX5_copy := fun w h => List.mem_cons_of_mem _ (List.mem_append_right _ h)
theorem mX5_copy_w2 : Cond.methodLink RX5 221 arraycopyName ∈ wsX5_copy := List.mem_of_getElem? (i := 2) rfl
theorem mX5_copy_w3 : Cond.native arraycopyName ∈ wsX5_copy := List.mem_of_getElem? (i := 3) rfl
theorem mX5_copy_w4 : Cond.static arraycopyName ∈ wsX5_copy := List.mem_of_getElem? (i := 4) rfl
theorem mX5_copy_w5 : Cond.initialized "java/lang/System" ∈ wsX5_copy := List.mem_of_getElem? (i := 5) rfl
def wp_Qm_copy (lf : Int32) (si : Nat → IA) (sl : IA) (sf : IA) (ss : IA) (a1 : Int32) (a2 : Int32) (a3 : Int32) (a4 : Int32) (a5 : Int32) (Q : Int32 → Int32 → (Nat → IA) → Prop) : Prop :=
  wp_Qm_isSheet a1 (fun r_1 => (r_1 = 0 → (Q (-2) lf si)) ∧ (¬ r_1 = 0 → (wp_Qm_isSheet a3 (fun r_2 => (r_2 = 0 → (Q (-2) lf si)) ∧ (¬ r_2 = 0 → (vp_in a1 4 ∧ (jn (wp_Qm_found 1 (fun r_3 m_lf_1 => Q r_3 m_lf_1 si)) (fun K_1 : Prop => ((sl a1.toNatClampNeg) = 0 → (vp_in a3 4 ∧ (((sl a3.toNatClampNeg) = 0 → (vp_in a1 4 ∧ (vp_in a3 4 ∧ (((sf a1.toNatClampNeg) = (sf a3.toNatClampNeg) → (vp_in a1 4 ∧ (wp_Sh_hasItems (ss a1.toNatClampNeg) a2 a5 (fun r_4 => jn (wp_Qm_found 2 (fun r_5 m_lf_2 => Q r_5 m_lf_2 si)) (fun K_2 : Prop => (r_4 = 0 → (K_2)) ∧ (¬ r_4 = 0 → (vp_in a3 4 ∧ (wp_Sh_hasItems (ss a3.toNatClampNeg) a4 a5 (fun r_6 => (r_6 = 0 → (K_2)) ∧ (¬ r_6 = 0 → (vp_in a1 4 ∧ (vp_in a3 4 ∧ (¬ a2 < 0 ∧ ¬ a4 < 0 ∧ ¬ a5 < 0 ∧ a2.toNatClampNeg + a5.toNatClampNeg ≤ 60 ∧ a4.toNatClampNeg + a5.toNatClampNeg ≤ 60 ∧ (∀ f_items_1 : IA, f_items_1 = va_cpy (si a1.toNatClampNeg) (si a3.toNatClampNeg) a2.toNatClampNeg a4.toNatClampNeg a5.toNatClampNeg → (Q 1 lf (va_up si a3.toNatClampNeg f_items_1)))))))))))))))) ∧ (¬ (sf a1.toNatClampNeg) = (sf a3.toNatClampNeg) → (wp_Qm_found 4 (fun r_7 m_lf_3 => Q r_7 m_lf_3 si))))))) ∧ (¬ (sl a3.toNatClampNeg) = 0 → (K_1))))) ∧ (¬ (sl a1.toNatClampNeg) = 0 → (K_1))))))))))
set_option maxHeartbeats 4000000 in
theorem c_Qm_copy (l : Launch) (G : GG) (ad : Nat → Nat) (lf : Int32) (chM : IA) (chR : IA) (chN : Int32) (chK : Int32) (md : IA) (sp : IA) (dS : IA) (dL : IA) (dR : IA) (dF : IA) (dP : Int32) (lS : IA) (lL : IA) (lR : IA) (lF : IA) (lP : Int32) (sS : IA) (sL : IA) (sT : Int32) (sD : Int32) (sM : Int32) (sX : Int32) (mk : Nat → IA) (si : Nat → IA) (sl : IA) (sf : IA) (ss : IA) (a1 : Int32) (a2 : Int32) (a3 : Int32) (a4 : Int32) (a5 : Int32) {Q : Int32 → Int32 → (Nat → IA) → Prop} (h : wp_Qm_copy lf si sl sf ss a1 a2 a3 a4 a5 Q) : qm_MI l yX5_copy wsX5_copy rmX5_copy G [.ref (ad 0), .int a1, .int a2, .int a3, .int a4, .int a5] (cw G ad lf chM chR chN chK md sp dS dL dR dF dP lS lL lR lF lP sS sL sT sD sM sX mk si sl sf ss) (fun (r : Int32) (u : Int32 × (Nat → IA)) => Q r u.1 u.2) (fun (u : Int32 × (Nat → IA)) => cw G ad u.1 chM chR chN chK md sp dS dL dR dF dP lS lL lR lF lP sS sL sT sD sM sX mk u.2 sl sf ss) := by
  refine qm_mkI (cc := cX5_copy) (maxL := 6) (by decide) rfl (Nat.le_of_ble_eq_true rfl) ?_
  intro X C hret
  replace C : qm_C G 6 X cX5_copy wsX5_copy RX5 := C
  refine v_lv (lv' := [(0, .ref (ad 0)), (1, .int a1), (2, .int a2), (3, .int a3), (4, .int a4), (5, .int a5)]) rfl ?_
  unfold wp_Qm_copy at h
  refine v_iload_n C dX5_copy_0 rfl 1 rfl ?_
  refine v_callSi C (c_Qm_isSheet l G (cw G ad lf chM chR chN chK md sp dS dL dR dF dP lS lL lR lF lP sS sL sT sD sM sX mk si sl sf ss) a1 h) gX5_copy_X5_isSheet rfl kX5_isSheet ⟨rfl, rfl⟩ ⟨Nat.le_of_ble_eq_true rfl, Nat.le_of_ble_eq_true rfl⟩ rfl (Nat.le_of_ble_eq_true rfl) dX5_copy_1 (fun r_1 _ h => ?_)
  try dsimp only at h
  refine v_if_eq C 14 dX5_copy_4 (by decide) (fun c_7 => ?_) (fun c_7 => ?_)
  · replace h := h.1 c_7
    refine v_bipush C (-2) dX5_copy_14 (by decide) ?_
    exact hret _ _ _ (-2) (lf, si) h rfl dX5_copy_16
  · replace h := h.2 c_7
    refine v_iload_n C dX5_copy_7 rfl 3 rfl ?_
    refine v_callSi C (c_Qm_isSheet l G (cw G ad lf chM chR chN chK md sp dS dL dR dF dP lS lL lR lF lP sS sL sT sD sM sX mk si sl sf ss) a3 h) gX5_copy_X5_isSheet rfl kX5_isSheet ⟨rfl, rfl⟩ ⟨Nat.le_of_ble_eq_true rfl, Nat.le_of_ble_eq_true rfl⟩ rfl (Nat.le_of_ble_eq_true rfl) dX5_copy_8 (fun r_2 _ h => ?_)
    try dsimp only at h
    refine v_if_ne C 17 dX5_copy_11 (by decide) (fun c_6 => ?_) (fun c_6 => ?_)
    · replace h := h.2 c_6
      refine v_aload_n C dX5_copy_17 rfl 0 rfl ?_
      refine v_get C iX5_copy_5 0 rfl rfl 1 (by decide) mX5_copy_w1 rfl rfl dX5_copy_18 ?_
      refine v_iload_n C dX5_copy_21 rfl 1 rfl ?_
      obtain ⟨hin_1, h⟩ := h
      refine v_aldS C 2 rfl hin_1 rfl dX5_copy_22 ?_
      refine v_getN C iX5_copy_3 (34 + 2 * a1.toNatClampNeg) (cw_shR G ad lf chM chR chN chK md sp dS dL dR dF dP lS lL lR lF lP sS sL sT sD sM sX mk si sl sf ss (qm_lt4 hin_1)).1 rfl 1 (by decide) (fun _ h => h.2.2.2.2.2.2.2.2.2.2.2.1) rfl rfl dX5_copy_23 ?_
      have hJ_1 : (wp_Qm_found 1 (fun r_3 m_lf_1 => Q r_3 m_lf_1 si)) → qm_V l G rmX5_copy 6 X (cw G ad lf chM chR chN chK md sp dS dL dR dF dP lS lL lR lF lP sS sL sT sD sM sX mk si sl sf ss) [(0, .ref (ad 0)), (1, .int a1), (2, .int a2), (3, .int a3), (4, .int a4), (5, .int a5)] 41 [] := by
        intro h
        try dsimp only at h
        refine v_aload_n C dX5_copy_41 rfl 0 rfl ?_
        refine v_iconst C 1 dX5_copy_42 (by decide) ?_
        refine v_callVi C (c_Qm_found l G ad lf chM chR chN chK md sp dS dL dR dF dP lS lL lR lF lP sS sL sT sD sM sX mk si sl sf ss 1 h) 0 rfl rfl gX5_copy_X5_found rfl kX5_found ⟨rfl, rfl⟩ ⟨Nat.le_of_ble_eq_true rfl, Nat.le_of_ble_eq_true rfl⟩ rfl (Nat.le_of_ble_eq_true rfl) dX5_copy_43 (fun r_3 m_lf_1 h => ?_)
        try dsimp only at h
        refine v_world (ws' := cw G ad m_lf_1 chM chR chN chK md sp dS dL dR dF dP lS lL lR lF lP sS sL sT sD sM sX mk si sl sf ss) rfl ?_
        exact hret _ _ _ r_3 (m_lf_1, si) h rfl dX5_copy_46
      replace h := jn_use h
      try dsimp only at h
      refine v_if_ne C 41 dX5_copy_26 (by decide) (fun c_5 => ?_) (fun c_5 => ?_)
      · replace h := h.2 c_5
        exact hJ_1 h
      · replace h := h.1 c_5
        refine v_aload_n C dX5_copy_29 rfl 0 rfl ?_
        refine v_get C iX5_copy_5 0 rfl rfl 1 (by decide) mX5_copy_w1 rfl rfl dX5_copy_30 ?_
        refine v_iload_n C dX5_copy_33 rfl 3 rfl ?_
        obtain ⟨hin_2, h⟩ := h
        refine v_aldS C 2 rfl hin_2 rfl dX5_copy_34 ?_
        refine v_getN C iX5_copy_3 (34 + 2 * a3.toNatClampNeg) (cw_shR G ad lf chM chR chN chK md sp dS dL dR dF dP lS lL lR lF lP sS sL sT sD sM sX mk si sl sf ss (qm_lt4 hin_2)).1 rfl 1 (by decide) (fun _ h => h.2.2.2.2.2.2.2.2.2.2.2.1) rfl rfl dX5_copy_35 ?_
        refine v_if_eq C 47 dX5_copy_38 (by decide) (fun c_4 => ?_) (fun c_4 => ?_)
        · replace h := h.1 c_4
          refine v_aload_n C dX5_copy_47 rfl 0 rfl ?_
          refine v_get C iX5_copy_5 0 rfl rfl 1 (by decide) mX5_copy_w1 rfl rfl dX5_copy_48 ?_
          refine v_iload_n C dX5_copy_51 rfl 1 rfl ?_
          obtain ⟨hin_3, h⟩ := h
          refine v_aldS C 2 rfl hin_3 rfl dX5_copy_52 ?_
          refine v_getN C iX5_copy_3 (34 + 2 * a1.toNatClampNeg) (cw_shR G ad lf chM chR chN chK md sp dS dL dR dF dP lS lL lR lF lP sS sL sT sD sM sX mk si sl sf ss (qm_lt4 hin_3)).1 rfl 2 (by decide) (fun _ h => h.2.2.2.2.2.2.2.2.2.2.2.2.1) rfl rfl dX5_copy_53 ?_
          refine v_aload_n C dX5_copy_56 rfl 0 rfl ?_
          refine v_get C iX5_copy_5 0 rfl rfl 1 (by decide) mX5_copy_w1 rfl rfl dX5_copy_57 ?_
          refine v_iload_n C dX5_copy_60 rfl 3 rfl ?_
          obtain ⟨hin_4, h⟩ := h
          refine v_aldS C 2 rfl hin_4 rfl dX5_copy_61 ?_
          refine v_getN C iX5_copy_3 (34 + 2 * a3.toNatClampNeg) (cw_shR G ad lf chM chR chN chK md sp dS dL dR dF dP lS lL lR lF lP sS sL sT sD sM sX mk si sl sf ss (qm_lt4 hin_4)).1 rfl 2 (by decide) (fun _ h => h.2.2.2.2.2.2.2.2.2.2.2.2.1) rfl rfl dX5_copy_62 ?_
          refine v_icmp_eq C 74 dX5_copy_65 (by decide) (fun c_3 => ?_) (fun c_3 => ?_)
          · replace h := h.1 c_3
            refine v_aload_n C dX5_copy_74 rfl 0 rfl ?_
            refine v_get C iX5_copy_5 0 rfl rfl 1 (by decide) mX5_copy_w1 rfl rfl dX5_copy_75 ?_
            refine v_iload_n C dX5_copy_78 rfl 1 rfl ?_
            obtain ⟨hin_5, h⟩ := h
            refine v_aldS C 2 rfl hin_5 rfl dX5_copy_79 ?_
            refine v_iload_n C dX5_copy_80 rfl 2 rfl ?_
            refine v_iload C dX5_copy_81 5 rfl ?_
            refine v_callVi C (c_Sh_hasItems l G ad (cw G ad lf chM chR chN chK md sp dS dL dR dF dP lS lL lR lF lP sS sL sT sD sM sX mk si sl sf ss) (34 + 2 * a1.toNatClampNeg) (cw_shR G ad lf chM chR chN chK md sp dS dL dR dF dP lS lL lR lF lP sS sL sT sD sM sX mk si sl sf ss (qm_lt4 hin_5))  a2 a5 h) (34 + 2 * a1.toNatClampNeg) (cw_shR G ad lf chM chR chN chK md sp dS dL dR dF dP lS lL lR lF lP sS sL sT sD sM sX mk si sl sf ss (qm_lt4 hin_5)).1 rfl gX5_copy_X3_hasItems rfl kX3_hasItems ⟨rfl, rfl⟩ ⟨Nat.le_of_ble_eq_true rfl, Nat.le_of_ble_eq_true rfl⟩ rfl (Nat.le_of_ble_eq_true rfl) dX5_copy_83 (fun r_4 _ h => ?_)
            try dsimp only at h
            have hJ_2 : (wp_Qm_found 2 (fun r_5 m_lf_2 => Q r_5 m_lf_2 si)) → qm_V l G rmX5_copy 6 X (cw G ad lf chM chR chN chK md sp dS dL dR dF dP lS lL lR lF lP sS sL sT sD sM sX mk si sl sf ss) [(0, .ref (ad 0)), (1, .int a1), (2, .int a2), (3, .int a3), (4, .int a4), (5, .int a5)] 105 [] := by
              intro h
              try dsimp only at h
              refine v_aload_n C dX5_copy_105 rfl 0 rfl ?_
              refine v_iconst C 2 dX5_copy_106 (by decide) ?_
              refine v_callVi C (c_Qm_found l G ad lf chM chR chN chK md sp dS dL dR dF dP lS lL lR lF lP sS sL sT sD sM sX mk si sl sf ss 2 h) 0 rfl rfl gX5_copy_X5_found rfl kX5_found ⟨rfl, rfl⟩ ⟨Nat.le_of_ble_eq_true rfl, Nat.le_of_ble_eq_true rfl⟩ rfl (Nat.le_of_ble_eq_true rfl) dX5_copy_107 (fun r_5 m_lf_2 h => ?_)
              try dsimp only at h
              refine v_world (ws' := cw G ad m_lf_2 chM chR chN chK md sp dS dL dR dF dP lS lL lR lF lP sS sL sT sD sM sX mk si sl sf ss) rfl ?_
              exact hret _ _ _ r_5 (m_lf_2, si) h rfl dX5_copy_110
            replace h := jn_use h
            try dsimp only at h
            refine v_if_eq C 105 dX5_copy_86 (by decide) (fun c_2 => ?_) (fun c_2 => ?_)
            · replace h := h.1 c_2
              exact hJ_2 h
            · replace h := h.2 c_2
              refine v_aload_n C dX5_copy_89 rfl 0 rfl ?_
              refine v_get C iX5_copy_5 0 rfl rfl 1 (by decide) mX5_copy_w1 rfl rfl dX5_copy_90 ?_
              refine v_iload_n C dX5_copy_93 rfl 3 rfl ?_
              obtain ⟨hin_6, h⟩ := h
              refine v_aldS C 2 rfl hin_6 rfl dX5_copy_94 ?_
              refine v_iload C dX5_copy_95 4 rfl ?_
              refine v_iload C dX5_copy_97 5 rfl ?_
              refine v_callVi C (c_Sh_hasItems l G ad (cw G ad lf chM chR chN chK md sp dS dL dR dF dP lS lL lR lF lP sS sL sT sD sM sX mk si sl sf ss) (34 + 2 * a3.toNatClampNeg) (cw_shR G ad lf chM chR chN chK md sp dS dL dR dF dP lS lL lR lF lP sS sL sT sD sM sX mk si sl sf ss (qm_lt4 hin_6))  a4 a5 h) (34 + 2 * a3.toNatClampNeg) (cw_shR G ad lf chM chR chN chK md sp dS dL dR dF dP lS lL lR lF lP sS sL sT sD sM sX mk si sl sf ss (qm_lt4 hin_6)).1 rfl gX5_copy_X3_hasItems rfl kX3_hasItems ⟨rfl, rfl⟩ ⟨Nat.le_of_ble_eq_true rfl, Nat.le_of_ble_eq_true rfl⟩ rfl (Nat.le_of_ble_eq_true rfl) dX5_copy_99 (fun r_6 _ h => ?_)
              try dsimp only at h
              refine v_if_ne C 111 dX5_copy_102 (by decide) (fun c_1 => ?_) (fun c_1 => ?_)
              · replace h := h.2 c_1
                refine v_aload_n C dX5_copy_111 rfl 0 rfl ?_
                refine v_get C iX5_copy_5 0 rfl rfl 1 (by decide) mX5_copy_w1 rfl rfl dX5_copy_112 ?_
                refine v_iload_n C dX5_copy_115 rfl 1 rfl ?_
                obtain ⟨hin_7, h⟩ := h
                refine v_aldS C 2 rfl hin_7 rfl dX5_copy_116 ?_
                refine v_getN C iX5_copy_3 (34 + 2 * a1.toNatClampNeg) (cw_shR G ad lf chM chR chN chK md sp dS dL dR dF dP lS lL lR lF lP sS sL sT sD sM sX mk si sl sf ss (qm_lt4 hin_7)).1 rfl 0 (by decide) (fun _ h => h.2.2.2.2.2.2.2.2.2.2.1) rfl rfl dX5_copy_117 ?_
                refine v_iload_n C dX5_copy_120 rfl 2 rfl ?_
                refine v_aload_n C dX5_copy_121 rfl 0 rfl ?_
                refine v_get C iX5_copy_5 0 rfl rfl 1 (by decide) mX5_copy_w1 rfl rfl dX5_copy_122 ?_
                refine v_iload_n C dX5_copy_125 rfl 3 rfl ?_
                obtain ⟨hin_8, h⟩ := h
                refine v_aldS C 2 rfl hin_8 rfl dX5_copy_126 ?_
                refine v_getN C iX5_copy_3 (34 + 2 * a3.toNatClampNeg) (cw_shR G ad lf chM chR chN chK md sp dS dL dR dF dP lS lL lR lF lP sS sL sT sD sM sX mk si sl sf ss (qm_lt4 hin_8)).1 rfl 0 (by decide) (fun _ h => h.2.2.2.2.2.2.2.2.2.2.1) rfl rfl dX5_copy_127 ?_
                refine v_iload C dX5_copy_130 4 rfl ?_
                refine v_iload C dX5_copy_132 5 rfl ?_
                obtain ⟨hc_1, hc_2, hc_3, hc_4, hc_5, h⟩ := h
                obtain ⟨f_items_1, ef_items_1⟩ : ∃ y : IA, y = va_cpy (si a1.toNatClampNeg) (si a3.toNatClampNeg) a2.toNatClampNeg a4.toNatClampNeg a5.toNatClampNeg := ⟨_, rfl⟩
                replace h := h f_items_1 ef_items_1
                refine v_arraycopy C (List.forall_mem_cons.mpr ⟨mX5_copy_w2, List.forall_mem_cons.mpr ⟨mX5_copy_w3, List.forall_mem_cons.mpr ⟨mX5_copy_w4, List.forall_mem_cons.mpr ⟨mX5_copy_w5, fun _ h => absurd h List.not_mem_nil⟩⟩⟩⟩) ((34 + 2 * a1.toNatClampNeg) + 1) ((34 + 2 * a3.toNatClampNeg) + 1) (cw_shR G ad lf chM chR chN chK md sp dS dL dR dF dP lS lL lR lF lP sS sL sT sD sM sX mk si sl sf ss (qm_lt4 hin_7)).2 (cw_shR G ad lf chM chR chN chK md sp dS dL dR dF dP lS lL lR lF lP sS sL sT sD sM sX mk si sl sf ss (qm_lt4 hin_8)).2 (ws' := cw G ad lf chM chR chN chK md sp dS dL dR dF dP lS lL lR lF lP sS sL sT sD sM sX mk (va_up si a3.toNatClampNeg f_items_1) sl sf ss) (by have hq := ((cw_shW G ad lf chM chR chN chK md sp dS dL dR dF dP lS lL lR lF lP sS sL sT sD sM sX mk si sl sf ss (qm_lt4 hin_8)) (si a3.toNatClampNeg) (sl a3.toNatClampNeg) (sf a3.toNatClampNeg) (ss a3.toNatClampNeg)).2.1 f_items_1; simp only [va_upI] at hq; subst ef_items_1; exact hq) hc_1 hc_2 hc_3 hc_4 hc_5 ⟨Nat.le_of_ble_eq_true rfl, Nat.le_of_ble_eq_true rfl⟩ (Nat.le_of_ble_eq_true rfl) dX5_copy_134 ?_
                refine v_iconst C 1 dX5_copy_137 (by decide) ?_
                exact hret _ _ _ 1 (lf, (va_up si a3.toNatClampNeg f_items_1)) h rfl dX5_copy_138
              · replace h := h.1 c_1
                exact hJ_2 h
          · replace h := h.2 c_3
            refine v_aload_n C dX5_copy_68 rfl 0 rfl ?_
            refine v_iconst C 4 dX5_copy_69 (by decide) ?_
            refine v_callVi C (c_Qm_found l G ad lf chM chR chN chK md sp dS dL dR dF dP lS lL lR lF lP sS sL sT sD sM sX mk si sl sf ss 4 h) 0 rfl rfl gX5_copy_X5_found rfl kX5_found ⟨rfl, rfl⟩ ⟨Nat.le_of_ble_eq_true rfl, Nat.le_of_ble_eq_true rfl⟩ rfl (Nat.le_of_ble_eq_true rfl) dX5_copy_70 (fun r_7 m_lf_3 h => ?_)
            try dsimp only at h
            refine v_world (ws' := cw G ad m_lf_3 chM chR chN chK md sp dS dL dR dF dP lS lL lR lF lP sS sL sT sD sM sX mk si sl sf ss) rfl ?_
            exact hret _ _ _ r_7 (m_lf_3, si) h rfl dX5_copy_73
        · replace h := h.2 c_4
          exact hJ_1 h
    · replace h := h.1 c_6
      refine v_bipush C (-2) dX5_copy_14 (by decide) ?_
      exact hret _ _ _ (-2) (lf, si) h rfl dX5_copy_16
-- QuarterMasks.write
def rmX5_write : Room := { frames := 10, cells := 0, slots := 0, locals := 270 }
theorem kX5_write : yX5_write.cls = RX5 ∧ yX5_write.cls ≠ "java/lang/invoke/MethodHandle" ∧ yX5_write.cls ≠ "java/lang/invoke/VarHandle" ∧ (parseMethodDescriptor yX5_write.desc).map (fun d => d.parameters.length) = some 3 := by decide +kernel
theorem mX5_write_w1 : Cond.fieldLink RX5 17 "QuarterMasks" "sheets" "[LQuarterMasks$Sheet;" ∈ wsX5_write := List.mem_of_getElem? (i := 1) rfl
theorem iX5_write_5 : ∀ w ∈ wsX50, w ∈ wsX5_write := fun w h => List.mem_cons_of_mem _ (List.mem_append_left _ (List.mem_append_left _ (List.mem_append_left _ (List.mem_append_right _ h))))
theorem iX5_write_3 : ∀ w ∈ wsX30, w ∈ wsX5_write := fun w h => List.mem_cons_of_mem _ (List.mem_append_left _ (List.mem_append_left _ (List.mem_append_right _ h)))
theorem mX5_write_w2 : Cond.fieldLink RX5 49 "QuarterMasks" "signs" "LQuarterMasks$Signs;" ∈ wsX5_write := List.mem_of_getElem? (i := 2) rfl
theorem mX5_write_w3 : Cond.fieldLink RX5 11 "QuarterMasks" "masks" "[LQuarterMasks$Grid;" ∈ wsX5_write := List.mem_of_getElem? (i := 3) rfl
theorem iX5_write_4 : ∀ w ∈ wsX40, w ∈ wsX5_write := fun w h => List.mem_cons_of_mem _ (List.mem_append_left _ (List.mem_append_right _ h))
theorem mX5_write_w4 : Cond.methodLink RX5 227 Lib.Math.min.name ∈ wsX5_write := List.mem_of_getElem? (i := 4) rfl
theorem mX5_write_w5 : Cond.static Lib.Math.min.name ∈ wsX5_write := List.mem_of_getElem? (i := 5) rfl
theorem mX5_write_w6 : Cond.initialized "java/lang/Math" ∈ wsX5_write := List.mem_of_getElem? (i := 6) rfl
theorem mX5_write_w7 : Cond.code Lib.Math.min.name Lib.Math.min.code 2 (some .int) ∈ wsX5_write := List.mem_of_getElem? (i := 7) rfl
theorem mX5_write_w8 : Cond.methodLink RX5 232 Lib.Math.max.name ∈ wsX5_write := List.mem_of_getElem? (i := 8) rfl
theorem mX5_write_w9 : Cond.static Lib.Math.max.name ∈ wsX5_write := List.mem_of_getElem? (i := 9) rfl
theorem mX5_write_w10 : Cond.code Lib.Math.max.name Lib.Math.max.code 2 (some .int) ∈ wsX5_write := List.mem_of_getElem? (i := 10) rfl
def wl_Qm_write_88 (lf : Int32) (sf : IA) (ss : IA) (a2 : Int32) (a3 : Int32) (Q : Int32 → Int32 → IA → IA → Int32 → Int32 → Int32 → Int32 → (Nat → IA) → Prop) (m_seen_1 : IA) (m_list_1 : IA) (m_told_1 : Int32) (m_darkBlocks_1 : Int32) (m_mixed_1 : Int32) (m_deepest_1 : Int32) (x4_1 : Int32) : Nat → Int32 → (Nat → IA) → Prop
  | 0, _, _ => False
  | n + 1, x5_1, si_1 => (x4_1 ≤ x5_1 → (Q x4_1 lf m_seen_1 m_list_1 m_told_1 m_darkBlocks_1 m_mixed_1 m_deepest_1 si_1)) ∧ (¬ x4_1 ≤ x5_1 → (vp_in a3 4 ∧ (wp_Si_sign m_list_1 m_told_1 (a2 + x5_1) (fun r_4 => wp_Sh_setItem (si_1 a3.toNatClampNeg) (sf a3.toNatClampNeg) (ss a3.toNatClampNeg) x5_1 r_4 (fun m_items_1 => (wl_Qm_write_88 lf sf ss a2 a3 Q m_seen_1 m_list_1 m_told_1 m_darkBlocks_1 m_mixed_1 m_deepest_1 x4_1 n) (x5_1 + 1) (va_up si_1 a3.toNatClampNeg m_items_1))))))
def wp_Qm_write (lf : Int32) (sS : IA) (sL : IA) (sT : Int32) (sD : Int32) (sM : Int32) (sX : Int32) (mk : Nat → IA) (si : Nat → IA) (sl : IA) (sf : IA) (ss : IA) (a1 : Int32) (a2 : Int32) (a3 : Int32) (Q : Int32 → Int32 → IA → IA → Int32 → Int32 → Int32 → Int32 → (Nat → IA) → Prop) : Prop :=
  wp_Qm_isMask a1 (fun r_1 => (r_1 = 0 → (Q (-2) lf sS sL sT sD sM sX si)) ∧ (¬ r_1 = 0 → (wp_Qm_within a2 341 (fun r_2 => (r_2 = 0 → (Q (-2) lf sS sL sT sD sM sX si)) ∧ (¬ r_2 = 0 → (wp_Qm_isSheet a3 (fun r_3 => (r_3 = 0 → (Q (-2) lf sS sL sT sD sM sX si)) ∧ (¬ r_3 = 0 → (vp_in a3 4 ∧ (((sl a3.toNatClampNeg) = 0 → (vp_in a1 4 ∧ (wp_Si_look sS sL sT sD sM sX (mk a1.toNatClampNeg) (fun m_seen_1 m_list_1 m_told_1 m_darkBlocks_1 m_mixed_1 m_deepest_1 => vp_in a3 4 ∧ (∀ x4_1 : Int32, x4_1 = (jmax 0 (jmin (ss a3.toNatClampNeg) (m_told_1 - a2))) → (∃ k_1 : Nat, wl_Qm_write_88 lf sf ss a2 a3 Q m_seen_1 m_list_1 m_told_1 m_darkBlocks_1 m_mixed_1 m_deepest_1 x4_1 k_1 0 si)))))) ∧ (¬ (sl a3.toNatClampNeg) = 0 → (wp_Qm_found 1 (fun r_5 m_lf_1 => Q r_5 m_lf_1 sS sL sT sD sM sX si)))))))))))))
set_option maxHeartbeats 4000000 in
theorem c_Qm_write (l : Launch) (G : GG) (ad : Nat → Nat) (lf : Int32) (chM : IA) (chR : IA) (chN : Int32) (chK : Int32) (md : IA) (sp : IA) (dS : IA) (dL : IA) (dR : IA) (dF : IA) (dP : Int32) (lS : IA) (lL : IA) (lR : IA) (lF : IA) (lP : Int32) (sS : IA) (sL : IA) (sT : Int32) (sD : Int32) (sM : Int32) (sX : Int32) (mk : Nat → IA) (si : Nat → IA) (sl : IA) (sf : IA) (ss : IA) (a1 : Int32) (a2 : Int32) (a3 : Int32) {Q : Int32 → Int32 → IA → IA → Int32 → Int32 → Int32 → Int32 → (Nat → IA) → Prop} (h : wp_Qm_write lf sS sL sT sD sM sX mk si sl sf ss a1 a2 a3 Q) : qm_MI l yX5_write wsX5_write rmX5_write G [.ref (ad 0), .int a1, .int a2, .int a3] (cw G ad lf chM chR chN chK md sp dS dL dR dF dP lS lL lR lF lP sS sL sT sD sM sX mk si sl sf ss) (fun (r : Int32) (u : Int32 × IA × IA × Int32 × Int32 × Int32 × Int32 × (Nat → IA)) => Q r u.1 u.2.1 u.2.2.1 u.2.2.2.1 u.2.2.2.2.1 u.2.2.2.2.2.1 u.2.2.2.2.2.2.1 u.2.2.2.2.2.2.2) (fun (u : Int32 × IA × IA × Int32 × Int32 × Int32 × Int32 × (Nat → IA)) => cw G ad u.1 chM chR chN chK md sp dS dL dR dF dP lS lL lR lF lP u.2.1 u.2.2.1 u.2.2.2.1 u.2.2.2.2.1 u.2.2.2.2.2.1 u.2.2.2.2.2.2.1 mk u.2.2.2.2.2.2.2 sl sf ss) := by
  refine qm_mkI (cc := cX5_write) (maxL := 6) (by decide) rfl (Nat.le_of_ble_eq_true rfl) ?_
  intro X C hret
  replace C : qm_C G 6 X cX5_write wsX5_write RX5 := C
  refine v_lv (lv' := [(0, .ref (ad 0)), (1, .int a1), (2, .int a2), (3, .int a3)]) rfl ?_
  unfold wp_Qm_write at h
  refine v_iload_n C dX5_write_0 rfl 1 rfl ?_
  refine v_callSi C (c_Qm_isMask l G (cw G ad lf chM chR chN chK md sp dS dL dR dF dP lS lL lR lF lP sS sL sT sD sM sX mk si sl sf ss) a1 h) gX5_write_X5_isMask rfl kX5_isMask ⟨rfl, rfl⟩ ⟨Nat.le_of_ble_eq_true rfl, Nat.le_of_ble_eq_true rfl⟩ rfl (Nat.le_of_ble_eq_true rfl) dX5_write_1 (fun r_1 _ h => ?_)
  try dsimp only at h
  refine v_if_eq C 24 dX5_write_4 (by decide) (fun c_5 => ?_) (fun c_5 => ?_)
  · replace h := h.1 c_5
    refine v_bipush C (-2) dX5_write_24 (by decide) ?_
    exact hret _ _ _ (-2) (lf, sS, sL, sT, sD, sM, sX, si) h rfl dX5_write_26
  · replace h := h.2 c_5
    refine v_iload_n C dX5_write_7 rfl 2 rfl ?_
    refine v_sipush C 341 dX5_write_8 (by decide) ?_
    refine v_callSi C (c_Qm_within l G (cw G ad lf chM chR chN chK md sp dS dL dR dF dP lS lL lR lF lP sS sL sT sD sM sX mk si sl sf ss) a2 341 h) gX5_write_X5_within rfl kX5_within ⟨rfl, rfl⟩ ⟨Nat.le_of_ble_eq_true rfl, Nat.le_of_ble_eq_true rfl⟩ rfl (Nat.le_of_ble_eq_true rfl) dX5_write_11 (fun r_2 _ h => ?_)
    try dsimp only at h
    refine v_if_eq C 24 dX5_write_14 (by decide) (fun c_4 => ?_) (fun c_4 => ?_)
    · replace h := h.1 c_4
      refine v_bipush C (-2) dX5_write_24 (by decide) ?_
      exact hret _ _ _ (-2) (lf, sS, sL, sT, sD, sM, sX, si) h rfl dX5_write_26
    · replace h := h.2 c_4
      refine v_iload_n C dX5_write_17 rfl 3 rfl ?_
      refine v_callSi C (c_Qm_isSheet l G (cw G ad lf chM chR chN chK md sp dS dL dR dF dP lS lL lR lF lP sS sL sT sD sM sX mk si sl sf ss) a3 h) gX5_write_X5_isSheet rfl kX5_isSheet ⟨rfl, rfl⟩ ⟨Nat.le_of_ble_eq_true rfl, Nat.le_of_ble_eq_true rfl⟩ rfl (Nat.le_of_ble_eq_true rfl) dX5_write_18 (fun r_3 _ h => ?_)
      try dsimp only at h
      refine v_if_ne C 27 dX5_write_21 (by decide) (fun c_3 => ?_) (fun c_3 => ?_)
      · replace h := h.2 c_3
        refine v_aload_n C dX5_write_27 rfl 0 rfl ?_
        refine v_get C iX5_write_5 0 rfl rfl 1 (by decide) mX5_write_w1 rfl rfl dX5_write_28 ?_
        refine v_iload_n C dX5_write_31 rfl 3 rfl ?_
        obtain ⟨hin_1, h⟩ := h
        refine v_aldS C 2 rfl hin_1 rfl dX5_write_32 ?_
        refine v_getN C iX5_write_3 (34 + 2 * a3.toNatClampNeg) (cw_shR G ad lf chM chR chN chK md sp dS dL dR dF dP lS lL lR lF lP sS sL sT sD sM sX mk si sl sf ss (qm_lt4 hin_1)).1 rfl 1 (by decide) (fun _ h => h.2.2.2.2.2.2.2.2.2.2.2.1) rfl rfl dX5_write_33 ?_
        refine v_if_eq C 45 dX5_write_36 (by decide) (fun c_2 => ?_) (fun c_2 => ?_)
        · replace h := h.1 c_2
          refine v_aload_n C dX5_write_45 rfl 0 rfl ?_
          refine v_get C iX5_write_5 0 rfl rfl 7 (by decide) mX5_write_w2 rfl rfl dX5_write_46 ?_
          refine v_aload_n C dX5_write_49 rfl 0 rfl ?_
          refine v_get C iX5_write_5 0 rfl rfl 0 (by decide) mX5_write_w3 rfl rfl dX5_write_50 ?_
          refine v_iload_n C dX5_write_53 rfl 1 rfl ?_
          obtain ⟨hin_2, h⟩ := h
          refine v_aldG C 1 rfl hin_2 rfl dX5_write_54 ?_
          refine v_callVv C (c_Si_look l G ad (fun y0 y1 y2 y3 y4 y5 => cw G ad lf chM chR chN chK md sp dS dL dR dF dP lS lL lR lF lP y0 y1 y2 y3 y4 y5 mk si sl sf ss) 22 (26 + 2 * a1.toNatClampNeg) (cw_sg G ad lf chM chR chN chK md sp dS dL dR dF dP lS lL lR lF lP sS sL sT sD sM sX mk si sl sf ss) (fun y0 y1 y2 y3 y4 y5 => (cw_mkR G ad lf chM chR chN chK md sp dS dL dR dF dP lS lL lR lF lP y0 y1 y2 y3 y4 y5 mk si sl sf ss (qm_lt4 hin_2))) sS sL sT sD sM sX h) 22 rfl rfl gX5_write_X4_look rfl kX4_look ⟨rfl, rfl⟩ ⟨Nat.le_of_ble_eq_true rfl, Nat.le_of_ble_eq_true rfl⟩ rfl (Nat.le_of_ble_eq_true rfl) dX5_write_55 (fun u h => ?_)
          obtain ⟨m_seen_1, m_list_1, m_told_1, m_darkBlocks_1, m_mixed_1, m_deepest_1⟩ := u
          try dsimp only at h
          refine v_world (ws' := cw G ad lf chM chR chN chK md sp dS dL dR dF dP lS lL lR lF lP m_seen_1 m_list_1 m_told_1 m_darkBlocks_1 m_mixed_1 m_deepest_1 mk si sl sf ss) rfl ?_
          refine v_iconst C 0 dX5_write_58 (by decide) ?_
          refine v_aload_n C dX5_write_59 rfl 0 rfl ?_
          refine v_get C iX5_write_5 0 rfl rfl 1 (by decide) mX5_write_w1 rfl rfl dX5_write_60 ?_
          refine v_iload_n C dX5_write_63 rfl 3 rfl ?_
          obtain ⟨hin_3, h⟩ := h
          refine v_aldS C 2 rfl hin_3 rfl dX5_write_64 ?_
          refine v_getN C iX5_write_3 (34 + 2 * a3.toNatClampNeg) (cw_shR G ad lf chM chR chN chK md sp dS dL dR dF dP lS lL lR lF lP m_seen_1 m_list_1 m_told_1 m_darkBlocks_1 m_mixed_1 m_deepest_1 mk si sl sf ss (qm_lt4 hin_3)).1 rfl 3 (by decide) (fun _ h => h.2.2.2.2.2.2.2.2.2.2.2.2.2.1) rfl rfl dX5_write_65 ?_
          refine v_aload_n C dX5_write_68 rfl 0 rfl ?_
          refine v_get C iX5_write_5 0 rfl rfl 7 (by decide) mX5_write_w2 rfl rfl dX5_write_69 ?_
          refine v_getN C iX5_write_4 22 rfl rfl 2 (by decide) (fun _ h => h.2.2.2.2.2.2.1) rfl rfl dX5_write_72 ?_
          refine v_iload_n C dX5_write_75 rfl 2 rfl ?_
          refine v_isub C dX5_write_76 ?_
          refine v_mmin C (List.forall_mem_cons.mpr ⟨mX5_write_w4, List.forall_mem_cons.mpr ⟨mX5_write_w5, List.forall_mem_cons.mpr ⟨mX5_write_w6, List.forall_mem_cons.mpr ⟨mX5_write_w7, fun _ h => absurd h List.not_mem_nil⟩⟩⟩⟩) ⟨Nat.le_of_ble_eq_true rfl, Nat.le_of_ble_eq_true rfl⟩ (Nat.le_of_ble_eq_true rfl) dX5_write_77 ?_
          refine v_mmax C (List.forall_mem_cons.mpr ⟨mX5_write_w8, List.forall_mem_cons.mpr ⟨mX5_write_w9, List.forall_mem_cons.mpr ⟨mX5_write_w6, List.forall_mem_cons.mpr ⟨mX5_write_w10, fun _ h => absurd h List.not_mem_nil⟩⟩⟩⟩) ⟨Nat.le_of_ble_eq_true rfl, Nat.le_of_ble_eq_true rfl⟩ (Nat.le_of_ble_eq_true rfl) dX5_write_80 ?_
          refine v_topi (fun x4_1 ex4_1 => ?_)
          replace h := h x4_1 ex4_1
          refine v_istore C [(4, .int x4_1), (0, .ref (ad 0)), (1, .int a1), (2, .int a2), (3, .int a3)] dX5_write_83 (by decide) rfl ?_
          refine v_iconst C 0 dX5_write_85 (by decide) ?_
          refine v_istore C [(5, .int 0), (4, .int x4_1), (0, .ref (ad 0)), (1, .int a1), (2, .int a2), (3, .int a3)] dX5_write_86 (by decide) rfl ?_
          have hl_1 : ∀ n_1 : Nat, ∀ (x5_1 : Int32) (si_1 : Nat → IA), wl_Qm_write_88 lf sf ss a2 a3 Q m_seen_1 m_list_1 m_told_1 m_darkBlocks_1 m_mixed_1 m_deepest_1 x4_1 n_1 x5_1 si_1 → qm_V l G rmX5_write 6 X (cw G ad lf chM chR chN chK md sp dS dL dR dF dP lS lL lR lF lP m_seen_1 m_list_1 m_told_1 m_darkBlocks_1 m_mixed_1 m_deepest_1 mk si_1 sl sf ss) [(5, .int x5_1), (4, .int x4_1), (0, .ref (ad 0)), (1, .int a1), (2, .int a2), (3, .int a3)] 88 [] := by
            intro n_1
            induction n_1 with
            | zero =>
              intro x5_1 si_1 h
              exact False.elim h
            | succ n_1 ih_1 =>
              intro x5_1 si_1 h
              rw [wl_Qm_write_88] at h
              refine v_iload C dX5_write_88 0 rfl ?_
              refine v_iload C dX5_write_90 1 rfl ?_
              refine v_icmp_ge C 123 dX5_write_92 (by decide) (fun c_1 => ?_) (fun c_1 => ?_)
              · replace h := h.1 c_1
                refine v_iload C dX5_write_123 1 rfl ?_
                exact hret _ _ _ x4_1 (lf, m_seen_1, m_list_1, m_told_1, m_darkBlocks_1, m_mixed_1, m_deepest_1, si_1) h rfl dX5_write_125
              · replace h := h.2 c_1
                refine v_aload_n C dX5_write_95 rfl 2 rfl ?_
                refine v_get C iX5_write_5 0 rfl rfl 1 (by decide) mX5_write_w1 rfl rfl dX5_write_96 ?_
                refine v_iload_n C dX5_write_99 rfl 5 rfl ?_
                obtain ⟨hin_4, h⟩ := h
                refine v_aldS C 2 rfl hin_4 rfl dX5_write_100 ?_
                refine v_iload C dX5_write_101 0 rfl ?_
                refine v_aload_n C dX5_write_103 rfl 2 rfl ?_
                refine v_get C iX5_write_5 0 rfl rfl 7 (by decide) mX5_write_w2 rfl rfl dX5_write_104 ?_
                refine v_iload_n C dX5_write_107 rfl 4 rfl ?_
                refine v_iload C dX5_write_108 0 rfl ?_
                refine v_iadd C dX5_write_110 ?_
                refine v_callVi C (c_Si_sign l G ad (cw G ad lf chM chR chN chK md sp dS dL dR dF dP lS lL lR lF lP m_seen_1 m_list_1 m_told_1 m_darkBlocks_1 m_mixed_1 m_deepest_1 mk si_1 sl sf ss) 22 (cw_sg G ad lf chM chR chN chK md sp dS dL dR dF dP lS lL lR lF lP m_seen_1 m_list_1 m_told_1 m_darkBlocks_1 m_mixed_1 m_deepest_1 mk si_1 sl sf ss m_seen_1 m_list_1 m_told_1 m_darkBlocks_1 m_mixed_1 m_deepest_1).1  (a2 + x5_1) h) 22 rfl rfl gX5_write_X4_sign rfl kX4_sign ⟨rfl, rfl⟩ ⟨Nat.le_of_ble_eq_true rfl, Nat.le_of_ble_eq_true rfl⟩ rfl (Nat.le_of_ble_eq_true rfl) dX5_write_111 (fun r_4 _ h => ?_)
                try dsimp only at h
                refine v_world (ws' := cw G ad lf chM chR chN chK md sp dS dL dR dF dP lS lL lR lF lP m_seen_1 m_list_1 m_told_1 m_darkBlocks_1 m_mixed_1 m_deepest_1 mk (va_up si_1 a3.toNatClampNeg (si_1 a3.toNatClampNeg)) (va_up sl a3.toNatClampNeg (sl a3.toNatClampNeg)) (va_up sf a3.toNatClampNeg (sf a3.toNatClampNeg)) (va_up ss a3.toNatClampNeg (ss a3.toNatClampNeg))) (by simp only [va_upI]) ?_
                refine v_callVv C (c_Sh_setItem l G ad (fun y0 y1 y2 y3 => cw G ad lf chM chR chN chK md sp dS dL dR dF dP lS lL lR lF lP m_seen_1 m_list_1 m_told_1 m_darkBlocks_1 m_mixed_1 m_deepest_1 mk (va_up si_1 a3.toNatClampNeg y0) (va_up sl a3.toNatClampNeg y1) (va_up sf a3.toNatClampNeg y2) (va_up ss a3.toNatClampNeg y3)) (34 + 2 * a3.toNatClampNeg) (cw_shW G ad lf chM chR chN chK md sp dS dL dR dF dP lS lL lR lF lP m_seen_1 m_list_1 m_told_1 m_darkBlocks_1 m_mixed_1 m_deepest_1 mk si_1 sl sf ss (qm_lt4 hin_4)) (si_1 a3.toNatClampNeg) (sl a3.toNatClampNeg) (sf a3.toNatClampNeg) (ss a3.toNatClampNeg) x5_1 r_4 h) (34 + 2 * a3.toNatClampNeg) (cw_shR G ad lf chM chR chN chK md sp dS dL dR dF dP lS lL lR lF lP m_seen_1 m_list_1 m_told_1 m_darkBlocks_1 m_mixed_1 m_deepest_1 mk (va_up si_1 a3.toNatClampNeg (si_1 a3.toNatClampNeg)) (va_up sl a3.toNatClampNeg (sl a3.toNatClampNeg)) (va_up sf a3.toNatClampNeg (sf a3.toNatClampNeg)) (va_up ss a3.toNatClampNeg (ss a3.toNatClampNeg)) (qm_lt4 hin_4)).1 rfl gX5_write_X3_setItem rfl kX3_setItem ⟨rfl, rfl⟩ ⟨Nat.le_of_ble_eq_true rfl, Nat.le_of_ble_eq_true rfl⟩ rfl (Nat.le_of_ble_eq_true rfl) dX5_write_114 (fun m_items_1 h => ?_)
                try dsimp only at h
                refine v_world (ws' := cw G ad lf chM chR chN chK md sp dS dL dR dF dP lS lL lR lF lP m_seen_1 m_list_1 m_told_1 m_darkBlocks_1 m_mixed_1 m_deepest_1 mk (va_up si_1 a3.toNatClampNeg m_items_1) sl sf ss) (by simp only [va_upI]) ?_
                refine v_iinc C (x5_1 + 1) 0 [(5, .int (x5_1 + 1)), (4, .int x4_1), (0, .ref (ad 0)), (1, .int a1), (2, .int a2), (3, .int a3)] dX5_write_117 rfl rfl (by decide) rfl ?_
                refine v_goto C 88 dX5_write_120 (by decide) ?_
                exact ih_1 (x5_1 + 1) (va_up si_1 a3.toNatClampNeg m_items_1) h
          obtain ⟨k_1, h⟩ := h
          exact hl_1 k_1 0 si h
        · replace h := h.2 c_2
          refine v_aload_n C dX5_write_39 rfl 0 rfl ?_
          refine v_iconst C 1 dX5_write_40 (by decide) ?_
          refine v_callVi C (c_Qm_found l G ad lf chM chR chN chK md sp dS dL dR dF dP lS lL lR lF lP sS sL sT sD sM sX mk si sl sf ss 1 h) 0 rfl rfl gX5_write_X5_found rfl kX5_found ⟨rfl, rfl⟩ ⟨Nat.le_of_ble_eq_true rfl, Nat.le_of_ble_eq_true rfl⟩ rfl (Nat.le_of_ble_eq_true rfl) dX5_write_41 (fun r_5 m_lf_1 h => ?_)
          try dsimp only at h
          refine v_world (ws' := cw G ad m_lf_1 chM chR chN chK md sp dS dL dR dF dP lS lL lR lF lP sS sL sT sD sM sX mk si sl sf ss) rfl ?_
          exact hret _ _ _ r_5 (m_lf_1, sS, sL, sT, sD, sM, sX, si) h rfl dX5_write_44
      · replace h := h.1 c_3
        refine v_bipush C (-2) dX5_write_24 (by decide) ?_
        exact hret _ _ _ (-2) (lf, sS, sL, sT, sD, sM, sX, si) h rfl dX5_write_26
-- QuarterMasks.blocksOfAll
def rmX5_blocksOfAll : Room := { frames := 10, cells := 0, slots := 0, locals := 270 }
theorem kX5_blocksOfAll : yX5_blocksOfAll.cls = RX5 ∧ yX5_blocksOfAll.cls ≠ "java/lang/invoke/MethodHandle" ∧ yX5_blocksOfAll.cls ≠ "java/lang/invoke/VarHandle" ∧ (parseMethodDescriptor yX5_blocksOfAll.desc).map (fun d => d.parameters.length) = some 0 := by decide +kernel
theorem mX5_blocksOfAll_w1 : Cond.fieldLink RX5 49 "QuarterMasks" "signs" "LQuarterMasks$Signs;" ∈ wsX5_blocksOfAll := List.mem_of_getElem? (i := 1) rfl
theorem iX5_blocksOfAll_5 : ∀ w ∈ wsX50, w ∈ wsX5_blocksOfAll := fun w h => List.mem_cons_of_mem _ (List.mem_append_left _ (List.mem_append_left _ (List.mem_append_right _ h)))
theorem mX5_blocksOfAll_w2 : Cond.fieldLink RX5 11 "QuarterMasks" "masks" "[LQuarterMasks$Grid;" ∈ wsX5_blocksOfAll := List.mem_of_getElem? (i := 2) rfl
theorem iX5_blocksOfAll_4 : ∀ w ∈ wsX40, w ∈ wsX5_blocksOfAll := fun w h => List.mem_cons_of_mem _ (List.mem_append_left _ (List.mem_append_right _ h))
def wl_Qm_blocksOfAll_4 (mk : Nat → IA) (Q : Int32 → IA → IA → Int32 → Int32 → Int32 → Int32 → Prop) : Nat → Int32 → Int32 → IA → IA → Int32 → Int32 → Int32 → Int32 → Prop
  | 0, _, _, _, _, _, _, _, _ => False
  | n + 1, x2_1, x1_1, sS_1, sL_1, sT_1, sD_1, sM_1, sX_1 => (4 ≤ x2_1 → (Q x1_1 sS_1 sL_1 sT_1 sD_1 sM_1 sX_1)) ∧ (¬ 4 ≤ x2_1 → (vp_in x2_1 4 ∧ (wp_Si_look sS_1 sL_1 sT_1 sD_1 sM_1 sX_1 (mk x2_1.toNatClampNeg) (fun m_seen_1 m_list_1 m_told_1 m_darkBlocks_1 m_mixed_1 m_deepest_1 => ∀ x1_2 : Int32, x1_2 = (x1_1 + (m_told_1 - m_mixed_1)) → ((wl_Qm_blocksOfAll_4 mk Q n) (x2_1 + 1) x1_2 m_seen_1 m_list_1 m_told_1 m_darkBlocks_1 m_mixed_1 m_deepest_1)))))
def wp_Qm_blocksOfAll (sS : IA) (sL : IA) (sT : Int32) (sD : Int32) (sM : Int32) (sX : Int32) (mk : Nat → IA)  (Q : Int32 → IA → IA → Int32 → Int32 → Int32 → Int32 → Prop) : Prop :=
  ∃ k_1 : Nat, wl_Qm_blocksOfAll_4 mk Q k_1 0 0 sS sL sT sD sM sX
set_option maxHeartbeats 4000000 in
theorem c_Qm_blocksOfAll (l : Launch) (G : GG) (ad : Nat → Nat) (lf : Int32) (chM : IA) (chR : IA) (chN : Int32) (chK : Int32) (md : IA) (sp : IA) (dS : IA) (dL : IA) (dR : IA) (dF : IA) (dP : Int32) (lS : IA) (lL : IA) (lR : IA) (lF : IA) (lP : Int32) (sS : IA) (sL : IA) (sT : Int32) (sD : Int32) (sM : Int32) (sX : Int32) (mk : Nat → IA) (si : Nat → IA) (sl : IA) (sf : IA) (ss : IA)  {Q : Int32 → IA → IA → Int32 → Int32 → Int32 → Int32 → Prop} (h : wp_Qm_blocksOfAll sS sL sT sD sM sX mk Q) : qm_MI l yX5_blocksOfAll wsX5_blocksOfAll rmX5_blocksOfAll G [.ref (ad 0)] (cw G ad lf chM chR chN chK md sp dS dL dR dF dP lS lL lR lF lP sS sL sT sD sM sX mk si sl sf ss) (fun (r : Int32) (u : IA × IA × Int32 × Int32 × Int32 × Int32) => Q r u.1 u.2.1 u.2.2.1 u.2.2.2.1 u.2.2.2.2.1 u.2.2.2.2.2) (fun (u : IA × IA × Int32 × Int32 × Int32 × Int32) => cw G ad lf chM chR chN chK md sp dS dL dR dF dP lS lL lR lF lP u.1 u.2.1 u.2.2.1 u.2.2.2.1 u.2.2.2.2.1 u.2.2.2.2.2 mk si sl sf ss) := by
  refine qm_mkI (cc := cX5_blocksOfAll) (maxL := 3) (by decide) rfl (Nat.le_of_ble_eq_true rfl) ?_
  intro X C hret
  replace C : qm_C G 3 X cX5_blocksOfAll wsX5_blocksOfAll RX5 := C
  refine v_lv (lv' := [(0, .ref (ad 0))]) rfl ?_
  unfold wp_Qm_blocksOfAll at h
  refine v_iconst C 0 dX5_blocksOfAll_0 (by decide) ?_
  refine v_istore_n C [(1, .int 0), (0, .ref (ad 0))] dX5_blocksOfAll_1 rfl (by decide) rfl ?_
  refine v_iconst C 0 dX5_blocksOfAll_2 (by decide) ?_
  refine v_istore_n C [(2, .int 0), (1, .int 0), (0, .ref (ad 0))] dX5_blocksOfAll_3 rfl (by decide) rfl ?_
  have hl_1 : ∀ n_1 : Nat, ∀ (x2_1 : Int32) (x1_1 : Int32) (sS_1 : IA) (sL_1 : IA) (sT_1 : Int32) (sD_1 : Int32) (sM_1 : Int32) (sX_1 : Int32), wl_Qm_blocksOfAll_4 mk Q n_1 x2_1 x1_1 sS_1 sL_1 sT_1 sD_1 sM_1 sX_1 → qm_V l G rmX5_blocksOfAll 3 X (cw G ad lf chM chR chN chK md sp dS dL dR dF dP lS lL lR lF lP sS_1 sL_1 sT_1 sD_1 sM_1 sX_1 mk si sl sf ss) [(2, .int x2_1), (1, .int x1_1), (0, .ref (ad 0))] 4 [] := by
    intro n_1
    induction n_1 with
    | zero =>
      intro x2_1 x1_1 sS_1 sL_1 sT_1 sD_1 sM_1 sX_1 h
      exact False.elim h
    | succ n_1 ih_1 =>
      intro x2_1 x1_1 sS_1 sL_1 sT_1 sD_1 sM_1 sX_1 h
      rw [wl_Qm_blocksOfAll_4] at h
      refine v_iload_n C dX5_blocksOfAll_4 rfl 0 rfl ?_
      refine v_iconst C 4 dX5_blocksOfAll_5 (by decide) ?_
      refine v_icmp_ge C 46 dX5_blocksOfAll_6 (by decide) (fun c_1 => ?_) (fun c_1 => ?_)
      · replace h := h.1 c_1
        refine v_iload_n C dX5_blocksOfAll_46 rfl 1 rfl ?_
        exact hret _ _ _ x1_1 (sS_1, sL_1, sT_1, sD_1, sM_1, sX_1) h rfl dX5_blocksOfAll_47
      · replace h := h.2 c_1
        refine v_aload_n C dX5_blocksOfAll_9 rfl 2 rfl ?_
        refine v_get C iX5_blocksOfAll_5 0 rfl rfl 7 (by decide) mX5_blocksOfAll_w1 rfl rfl dX5_blocksOfAll_10 ?_
        refine v_aload_n C dX5_blocksOfAll_13 rfl 2 rfl ?_
        refine v_get C iX5_blocksOfAll_5 0 rfl rfl 0 (by decide) mX5_blocksOfAll_w2 rfl rfl dX5_blocksOfAll_14 ?_
        refine v_iload_n C dX5_blocksOfAll_17 rfl 0 rfl ?_
        obtain ⟨hin_1, h⟩ := h
        refine v_aldG C 1 rfl hin_1 rfl dX5_blocksOfAll_18 ?_
        refine v_callVv C (c_Si_look l G ad (fun y0 y1 y2 y3 y4 y5 => cw G ad lf chM chR chN chK md sp dS dL dR dF dP lS lL lR lF lP y0 y1 y2 y3 y4 y5 mk si sl sf ss) 22 (26 + 2 * x2_1.toNatClampNeg) (cw_sg G ad lf chM chR chN chK md sp dS dL dR dF dP lS lL lR lF lP sS_1 sL_1 sT_1 sD_1 sM_1 sX_1 mk si sl sf ss) (fun y0 y1 y2 y3 y4 y5 => (cw_mkR G ad lf chM chR chN chK md sp dS dL dR dF dP lS lL lR lF lP y0 y1 y2 y3 y4 y5 mk si sl sf ss (qm_lt4 hin_1))) sS_1 sL_1 sT_1 sD_1 sM_1 sX_1 h) 22 rfl rfl gX5_blocksOfAll_X4_look rfl kX4_look ⟨rfl, rfl⟩ ⟨Nat.le_of_ble_eq_true rfl, Nat.le_of_ble_eq_true rfl⟩ rfl (Nat.le_of_ble_eq_true rfl) dX5_blocksOfAll_19 (fun u h => ?_)
        obtain ⟨m_seen_1, m_list_1, m_told_1, m_darkBlocks_1, m_mixed_1, m_deepest_1⟩ := u
        try dsimp only at h
        refine v_world (ws' := cw G ad lf chM chR chN chK md sp dS dL dR dF dP lS lL lR lF lP m_seen_1 m_list_1 m_told_1 m_darkBlocks_1 m_mixed_1 m_deepest_1 mk si sl sf ss) rfl ?_
        refine v_iload_n C dX5_blocksOfAll_22 rfl 1 rfl ?_
        refine v_aload_n C dX5_blocksOfAll_23 rfl 2 rfl ?_
        refine v_get C iX5_blocksOfAll_5 0 rfl rfl 7 (by decide) mX5_blocksOfAll_w1 rfl rfl dX5_blocksOfAll_24 ?_
        refine v_getN C iX5_blocksOfAll_4 22 rfl rfl 2 (by decide) (fun _ h => h.2.2.2.2.2.2.1) rfl rfl dX5_blocksOfAll_27 ?_
        refine v_aload_n C dX5_blocksOfAll_30 rfl 2 rfl ?_
        refine v_get C iX5_blocksOfAll_5 0 rfl rfl 7 (by decide) mX5_blocksOfAll_w1 rfl rfl dX5_blocksOfAll_31 ?_
        refine v_getN C iX5_blocksOfAll_4 22 rfl rfl 4 (by decide) (fun _ h => h.2.2.2.2.2.2.2.2.1) rfl rfl dX5_blocksOfAll_34 ?_
        refine v_isub C dX5_blocksOfAll_37 ?_
        refine v_iadd C dX5_blocksOfAll_38 ?_
        refine v_topi (fun x1_2 ex1_2 => ?_)
        replace h := h x1_2 ex1_2
        refine v_istore_n C [(1, .int x1_2), (2, .int x2_1), (0, .ref (ad 0))] dX5_blocksOfAll_39 rfl (by decide) rfl ?_
        refine v_iinc C (x2_1 + 1) 1 [(2, .int (x2_1 + 1)), (1, .int x1_2), (0, .ref (ad 0))] dX5_blocksOfAll_40 rfl rfl (by decide) rfl ?_
        refine v_goto C 4 dX5_blocksOfAll_43 (by decide) ?_
        exact ih_1 (x2_1 + 1) x1_2 m_seen_1 m_list_1 m_told_1 m_darkBlocks_1 m_mixed_1 m_deepest_1 h
  obtain ⟨k_1, h⟩ := h
  exact hl_1 k_1 0 0 sS sL sT sD sM sX h
-- QuarterMasks.partsOfAll
def rmX5_partsOfAll : Room := { frames := 5, cells := 0, slots := 0, locals := 132 }
theorem kX5_partsOfAll : yX5_partsOfAll.cls = RX5 ∧ yX5_partsOfAll.cls ≠ "java/lang/invoke/MethodHandle" ∧ yX5_partsOfAll.cls ≠ "java/lang/invoke/VarHandle" ∧ (parseMethodDescriptor yX5_partsOfAll.desc).map (fun d => d.parameters.length) = some 0 := by decide +kernel
theorem mX5_partsOfAll_w1 : Cond.fieldLink RX5 39 "QuarterMasks" "darkParts" "LQuarterMasks$Parts;" ∈ wsX5_partsOfAll := List.mem_of_getElem? (i := 1) rfl
theorem iX5_partsOfAll_5 : ∀ w ∈ wsX50, w ∈ wsX5_partsOfAll := fun w h => List.mem_cons_of_mem _ (List.mem_append_left _ (List.mem_append_left _ (List.mem_append_right _ h)))
theorem mX5_partsOfAll_w2 : Cond.fieldLink RX5 11 "QuarterMasks" "masks" "[LQuarterMasks$Grid;" ∈ wsX5_partsOfAll := List.mem_of_getElem? (i := 2) rfl
theorem iX5_partsOfAll_2 : ∀ w ∈ wsX20, w ∈ wsX5_partsOfAll := fun w h => List.mem_cons_of_mem _ (List.mem_append_left _ (List.mem_append_right _ h))
def wl_Qm_partsOfAll_4 (mk : Nat → IA) (Q : Int32 → IA → IA → IA → IA → Int32 → Prop) : Nat → Int32 → Int32 → IA → IA → IA → IA → Int32 → Prop
  | 0, _, _, _, _, _, _, _ => False
  | n + 1, x2_1, x1_1, dS_1, dL_1, dR_1, dF_1, dP_1 => (4 ≤ x2_1 → (Q x1_1 dS_1 dL_1 dR_1 dF_1 dP_1)) ∧ (¬ 4 ≤ x2_1 → (vp_in x2_1 4 ∧ (wp_Pa_look dS_1 dL_1 dR_1 dF_1 dP_1 (mk x2_1.toNatClampNeg) (fun m_seen_1 m_labels_1 m_reached_1 m_figures_1 m_parts_1 => ∀ x1_2 : Int32, x1_2 = (x1_1 + m_parts_1) → ((wl_Qm_partsOfAll_4 mk Q n) (x2_1 + 1) x1_2 m_seen_1 m_labels_1 m_reached_1 m_figures_1 m_parts_1)))))
def wp_Qm_partsOfAll (dS : IA) (dL : IA) (dR : IA) (dF : IA) (dP : Int32) (mk : Nat → IA)  (Q : Int32 → IA → IA → IA → IA → Int32 → Prop) : Prop :=
  ∃ k_1 : Nat, wl_Qm_partsOfAll_4 mk Q k_1 0 0 dS dL dR dF dP
set_option maxHeartbeats 4000000 in
theorem c_Qm_partsOfAll (l : Launch) (G : GG) (ad : Nat → Nat) (lf : Int32) (chM : IA) (chR : IA) (chN : Int32) (chK : Int32) (md : IA) (sp : IA) (dS : IA) (dL : IA) (dR : IA) (dF : IA) (dP : Int32) (lS : IA) (lL : IA) (lR : IA) (lF : IA) (lP : Int32) (sS : IA) (sL : IA) (sT : Int32) (sD : Int32) (sM : Int32) (sX : Int32) (mk : Nat → IA) (si : Nat → IA) (sl : IA) (sf : IA) (ss : IA)  {Q : Int32 → IA → IA → IA → IA → Int32 → Prop} (h : wp_Qm_partsOfAll dS dL dR dF dP mk Q) : qm_MI l yX5_partsOfAll wsX5_partsOfAll rmX5_partsOfAll G [.ref (ad 0)] (cw G ad lf chM chR chN chK md sp dS dL dR dF dP lS lL lR lF lP sS sL sT sD sM sX mk si sl sf ss) (fun (r : Int32) (u : IA × IA × IA × IA × Int32) => Q r u.1 u.2.1 u.2.2.1 u.2.2.2.1 u.2.2.2.2) (fun (u : IA × IA × IA × IA × Int32) => cw G ad lf chM chR chN chK md sp u.1 u.2.1 u.2.2.1 u.2.2.2.1 u.2.2.2.2 lS lL lR lF lP sS sL sT sD sM sX mk si sl sf ss) := by
  refine qm_mkI (cc := cX5_partsOfAll) (maxL := 3) (by decide) rfl (Nat.le_of_ble_eq_true rfl) ?_
  intro X C hret
  replace C : qm_C G 3 X cX5_partsOfAll wsX5_partsOfAll RX5 := C
  refine v_lv (lv' := [(0, .ref (ad 0))]) rfl ?_
  unfold wp_Qm_partsOfAll at h
  refine v_iconst C 0 dX5_partsOfAll_0 (by decide) ?_
  refine v_istore_n C [(1, .int 0), (0, .ref (ad 0))] dX5_partsOfAll_1 rfl (by decide) rfl ?_
  refine v_iconst C 0 dX5_partsOfAll_2 (by decide) ?_
  refine v_istore_n C [(2, .int 0), (1, .int 0), (0, .ref (ad 0))] dX5_partsOfAll_3 rfl (by decide) rfl ?_
  have hl_1 : ∀ n_1 : Nat, ∀ (x2_1 : Int32) (x1_1 : Int32) (dS_1 : IA) (dL_1 : IA) (dR_1 : IA) (dF_1 : IA) (dP_1 : Int32), wl_Qm_partsOfAll_4 mk Q n_1 x2_1 x1_1 dS_1 dL_1 dR_1 dF_1 dP_1 → qm_V l G rmX5_partsOfAll 3 X (cw G ad lf chM chR chN chK md sp dS_1 dL_1 dR_1 dF_1 dP_1 lS lL lR lF lP sS sL sT sD sM sX mk si sl sf ss) [(2, .int x2_1), (1, .int x1_1), (0, .ref (ad 0))] 4 [] := by
    intro n_1
    induction n_1 with
    | zero =>
      intro x2_1 x1_1 dS_1 dL_1 dR_1 dF_1 dP_1 h
      exact False.elim h
    | succ n_1 ih_1 =>
      intro x2_1 x1_1 dS_1 dL_1 dR_1 dF_1 dP_1 h
      rw [wl_Qm_partsOfAll_4] at h
      refine v_iload_n C dX5_partsOfAll_4 rfl 0 rfl ?_
      refine v_iconst C 4 dX5_partsOfAll_5 (by decide) ?_
      refine v_icmp_ge C 38 dX5_partsOfAll_6 (by decide) (fun c_1 => ?_) (fun c_1 => ?_)
      · replace h := h.1 c_1
        refine v_iload_n C dX5_partsOfAll_38 rfl 1 rfl ?_
        exact hret _ _ _ x1_1 (dS_1, dL_1, dR_1, dF_1, dP_1) h rfl dX5_partsOfAll_39
      · replace h := h.2 c_1
        refine v_aload_n C dX5_partsOfAll_9 rfl 2 rfl ?_
        refine v_get C iX5_partsOfAll_5 0 rfl rfl 5 (by decide) mX5_partsOfAll_w1 rfl rfl dX5_partsOfAll_10 ?_
        refine v_aload_n C dX5_partsOfAll_13 rfl 2 rfl ?_
        refine v_get C iX5_partsOfAll_5 0 rfl rfl 0 (by decide) mX5_partsOfAll_w2 rfl rfl dX5_partsOfAll_14 ?_
        refine v_iload_n C dX5_partsOfAll_17 rfl 0 rfl ?_
        obtain ⟨hin_1, h⟩ := h
        refine v_aldG C 1 rfl hin_1 rfl dX5_partsOfAll_18 ?_
        refine v_callVv C (c_Pa_look l G ad (fun y0 y1 y2 y3 y4 => cw G ad lf chM chR chN chK md sp y0 y1 y2 y3 y4 lS lL lR lF lP sS sL sT sD sM sX mk si sl sf ss) 10 (26 + 2 * x2_1.toNatClampNeg) (cw_dp G ad lf chM chR chN chK md sp dS_1 dL_1 dR_1 dF_1 dP_1 lS lL lR lF lP sS sL sT sD sM sX mk si sl sf ss) (fun y0 y1 y2 y3 y4 => (cw_mkR G ad lf chM chR chN chK md sp y0 y1 y2 y3 y4 lS lL lR lF lP sS sL sT sD sM sX mk si sl sf ss (qm_lt4 hin_1))) dS_1 dL_1 dR_1 dF_1 dP_1 h) 10 rfl rfl gX5_partsOfAll_X2_look rfl kX2_look ⟨rfl, rfl⟩ ⟨Nat.le_of_ble_eq_true rfl, Nat.le_of_ble_eq_true rfl⟩ rfl (Nat.le_of_ble_eq_true rfl) dX5_partsOfAll_19 (fun u h => ?_)
        obtain ⟨m_seen_1, m_labels_1, m_reached_1, m_figures_1, m_parts_1⟩ := u
        try dsimp only at h
        refine v_world (ws' := cw G ad lf chM chR chN chK md sp m_seen_1 m_labels_1 m_reached_1 m_figures_1 m_parts_1 lS lL lR lF lP sS sL sT sD sM sX mk si sl sf ss) rfl ?_
        refine v_iload_n C dX5_partsOfAll_22 rfl 1 rfl ?_
        refine v_aload_n C dX5_partsOfAll_23 rfl 2 rfl ?_
        refine v_get C iX5_partsOfAll_5 0 rfl rfl 5 (by decide) mX5_partsOfAll_w1 rfl rfl dX5_partsOfAll_24 ?_
        refine v_getN C iX5_partsOfAll_2 10 rfl rfl 4 (by decide) (fun _ h => h.2.2.2.2.2.1) rfl rfl dX5_partsOfAll_27 ?_
        refine v_iadd C dX5_partsOfAll_30 ?_
        refine v_topi (fun x1_2 ex1_2 => ?_)
        replace h := h x1_2 ex1_2
        refine v_istore_n C [(1, .int x1_2), (2, .int x2_1), (0, .ref (ad 0))] dX5_partsOfAll_31 rfl (by decide) rfl ?_
        refine v_iinc C (x2_1 + 1) 1 [(2, .int (x2_1 + 1)), (1, .int x1_2), (0, .ref (ad 0))] dX5_partsOfAll_32 rfl rfl (by decide) rfl ?_
        refine v_goto C 4 dX5_partsOfAll_35 (by decide) ?_
        exact ih_1 (x2_1 + 1) x1_2 m_seen_1 m_labels_1 m_reached_1 m_figures_1 m_parts_1 h
  obtain ⟨k_1, h⟩ := h
  exact hl_1 k_1 0 0 dS dL dR dF dP h
-- QuarterMasks.cellsDarkInAll
def rmX5_cellsDarkInAll : Room := { frames := 2, cells := 0, slots := 0, locals := 61 }
theorem kX5_cellsDarkInAll : yX5_cellsDarkInAll.cls = RX5 ∧ yX5_cellsDarkInAll.cls ≠ "java/lang/invoke/MethodHandle" ∧ yX5_cellsDarkInAll.cls ≠ "java/lang/invoke/VarHandle" ∧ (parseMethodDescriptor yX5_cellsDarkInAll.desc).map (fun d => d.parameters.length) = some 0 := by decide +kernel
theorem mX5_cellsDarkInAll_w1 : Cond.fieldLink RX5 11 "QuarterMasks" "masks" "[LQuarterMasks$Grid;" ∈ wsX5_cellsDarkInAll := List.mem_of_getElem? (i := 1) rfl
theorem iX5_cellsDarkInAll_5 : ∀ w ∈ wsX50, w ∈ wsX5_cellsDarkInAll := fun w h => List.mem_cons_of_mem _ (List.mem_append_left _ (List.mem_append_right _ h))
def wl_Qm_cellsDarkInAll_4 (mk : Nat → IA) (Q : Int32 → Prop) : Nat → Int32 → Int32 → Prop
  | 0, _, _ => False
  | n + 1, x2_1, x1_1 => (16 ≤ x2_1 → (Q x1_1)) ∧ (¬ 16 ≤ x2_1 → (vp_in 0 4 ∧ (wp_Gr_row (mk (0 : Int32).toNatClampNeg) x2_1 (fun r_1 => vp_in 1 4 ∧ (wp_Gr_row (mk (1 : Int32).toNatClampNeg) x2_1 (fun r_2 => vp_in 2 4 ∧ (wp_Gr_row (mk (2 : Int32).toNatClampNeg) x2_1 (fun r_3 => vp_in 3 4 ∧ (wp_Gr_row (mk (3 : Int32).toNatClampNeg) x2_1 (fun r_4 => wp_In_bitCount (((r_1 &&& r_2) &&& r_3) &&& r_4) (fun r_5 => ∀ x1_2 : Int32, x1_2 = (x1_1 + r_5) → ((wl_Qm_cellsDarkInAll_4 mk Q n) (x2_1 + 1) x1_2))))))))))))
def wp_Qm_cellsDarkInAll (mk : Nat → IA)  (Q : Int32 → Prop) : Prop :=
  ∃ k_1 : Nat, wl_Qm_cellsDarkInAll_4 mk Q k_1 0 0
set_option maxHeartbeats 4000000 in
theorem c_Qm_cellsDarkInAll (l : Launch) (G : GG) (ad : Nat → Nat) (lf : Int32) (chM : IA) (chR : IA) (chN : Int32) (chK : Int32) (md : IA) (sp : IA) (dS : IA) (dL : IA) (dR : IA) (dF : IA) (dP : Int32) (lS : IA) (lL : IA) (lR : IA) (lF : IA) (lP : Int32) (sS : IA) (sL : IA) (sT : Int32) (sD : Int32) (sM : Int32) (sX : Int32) (mk : Nat → IA) (si : Nat → IA) (sl : IA) (sf : IA) (ss : IA)  {Q : Int32 → Prop} (h : wp_Qm_cellsDarkInAll mk Q) : qm_MI l yX5_cellsDarkInAll wsX5_cellsDarkInAll rmX5_cellsDarkInAll G [.ref (ad 0)] (cw G ad lf chM chR chN chK md sp dS dL dR dF dP lS lL lR lF lP sS sL sT sD sM sX mk si sl sf ss) (fun (r : Int32) (_ : Unit) => Q r) (fun (_ : Unit) => cw G ad lf chM chR chN chK md sp dS dL dR dF dP lS lL lR lF lP sS sL sT sD sM sX mk si sl sf ss) := by
  refine qm_mkI (cc := cX5_cellsDarkInAll) (maxL := 3) (by decide) rfl (Nat.le_of_ble_eq_true rfl) ?_
  intro X C hret
  replace C : qm_C G 3 X cX5_cellsDarkInAll wsX5_cellsDarkInAll RX5 := C
  refine v_lv (lv' := [(0, .ref (ad 0))]) rfl ?_
  unfold wp_Qm_cellsDarkInAll at h
  refine v_iconst C 0 dX5_cellsDarkInAll_0 (by decide) ?_
  refine v_istore_n C [(1, .int 0), (0, .ref (ad 0))] dX5_cellsDarkInAll_1 rfl (by decide) rfl ?_
  refine v_iconst C 0 dX5_cellsDarkInAll_2 (by decide) ?_
  refine v_istore_n C [(2, .int 0), (1, .int 0), (0, .ref (ad 0))] dX5_cellsDarkInAll_3 rfl (by decide) rfl ?_
  have hl_1 : ∀ n_1 : Nat, ∀ (x2_1 : Int32) (x1_1 : Int32), wl_Qm_cellsDarkInAll_4 mk Q n_1 x2_1 x1_1 → qm_V l G rmX5_cellsDarkInAll 3 X (cw G ad lf chM chR chN chK md sp dS dL dR dF dP lS lL lR lF lP sS sL sT sD sM sX mk si sl sf ss) [(2, .int x2_1), (1, .int x1_1), (0, .ref (ad 0))] 4 [] := by
    intro n_1
    induction n_1 with
    | zero =>
      intro x2_1 x1_1 h
      exact False.elim h
    | succ n_1 ih_1 =>
      intro x2_1 x1_1 h
      rw [wl_Qm_cellsDarkInAll_4] at h
      refine v_iload_n C dX5_cellsDarkInAll_4 rfl 0 rfl ?_
      refine v_bipush C 16 dX5_cellsDarkInAll_5 (by decide) ?_
      refine v_icmp_ge C 65 dX5_cellsDarkInAll_7 (by decide) (fun c_1 => ?_) (fun c_1 => ?_)
      · replace h := h.1 c_1
        refine v_iload_n C dX5_cellsDarkInAll_65 rfl 1 rfl ?_
        exact hret _ _ _ x1_1 () h rfl dX5_cellsDarkInAll_66
      · replace h := h.2 c_1
        refine v_iload_n C dX5_cellsDarkInAll_10 rfl 1 rfl ?_
        refine v_aload_n C dX5_cellsDarkInAll_11 rfl 2 rfl ?_
        refine v_get C iX5_cellsDarkInAll_5 0 rfl rfl 0 (by decide) mX5_cellsDarkInAll_w1 rfl rfl dX5_cellsDarkInAll_12 ?_
        refine v_iconst C 0 dX5_cellsDarkInAll_15 (by decide) ?_
        obtain ⟨hin_1, h⟩ := h
        refine v_aldG C 1 rfl hin_1 rfl dX5_cellsDarkInAll_16 ?_
        refine v_iload_n C dX5_cellsDarkInAll_17 rfl 0 rfl ?_
        refine v_callVi C (c_Gr_row l G ad (cw G ad lf chM chR chN chK md sp dS dL dR dF dP lS lL lR lF lP sS sL sT sD sM sX mk si sl sf ss) (26 + 2 * (0 : Int32).toNatClampNeg) (cw_mkR G ad lf chM chR chN chK md sp dS dL dR dF dP lS lL lR lF lP sS sL sT sD sM sX mk si sl sf ss (qm_lt4 hin_1))  x2_1 h) (26 + 2 * (0 : Int32).toNatClampNeg) (cw_mkR G ad lf chM chR chN chK md sp dS dL dR dF dP lS lL lR lF lP sS sL sT sD sM sX mk si sl sf ss (qm_lt4 hin_1)).1 rfl gX5_cellsDarkInAll_X1_row rfl kX1_row ⟨rfl, rfl⟩ ⟨Nat.le_of_ble_eq_true rfl, Nat.le_of_ble_eq_true rfl⟩ rfl (Nat.le_of_ble_eq_true rfl) dX5_cellsDarkInAll_18 (fun r_1 _ h => ?_)
        try dsimp only at h
        refine v_aload_n C dX5_cellsDarkInAll_21 rfl 2 rfl ?_
        refine v_get C iX5_cellsDarkInAll_5 0 rfl rfl 0 (by decide) mX5_cellsDarkInAll_w1 rfl rfl dX5_cellsDarkInAll_22 ?_
        refine v_iconst C 1 dX5_cellsDarkInAll_25 (by decide) ?_
        obtain ⟨hin_2, h⟩ := h
        refine v_aldG C 1 rfl hin_2 rfl dX5_cellsDarkInAll_26 ?_
        refine v_iload_n C dX5_cellsDarkInAll_27 rfl 0 rfl ?_
        refine v_callVi C (c_Gr_row l G ad (cw G ad lf chM chR chN chK md sp dS dL dR dF dP lS lL lR lF lP sS sL sT sD sM sX mk si sl sf ss) (26 + 2 * (1 : Int32).toNatClampNeg) (cw_mkR G ad lf chM chR chN chK md sp dS dL dR dF dP lS lL lR lF lP sS sL sT sD sM sX mk si sl sf ss (qm_lt4 hin_2))  x2_1 h) (26 + 2 * (1 : Int32).toNatClampNeg) (cw_mkR G ad lf chM chR chN chK md sp dS dL dR dF dP lS lL lR lF lP sS sL sT sD sM sX mk si sl sf ss (qm_lt4 hin_2)).1 rfl gX5_cellsDarkInAll_X1_row rfl kX1_row ⟨rfl, rfl⟩ ⟨Nat.le_of_ble_eq_true rfl, Nat.le_of_ble_eq_true rfl⟩ rfl (Nat.le_of_ble_eq_true rfl) dX5_cellsDarkInAll_28 (fun r_2 _ h => ?_)
        try dsimp only at h
        refine v_iand C dX5_cellsDarkInAll_31 ?_
        refine v_aload_n C dX5_cellsDarkInAll_32 rfl 2 rfl ?_
        refine v_get C iX5_cellsDarkInAll_5 0 rfl rfl 0 (by decide) mX5_cellsDarkInAll_w1 rfl rfl dX5_cellsDarkInAll_33 ?_
        refine v_iconst C 2 dX5_cellsDarkInAll_36 (by decide) ?_
        obtain ⟨hin_3, h⟩ := h
        refine v_aldG C 1 rfl hin_3 rfl dX5_cellsDarkInAll_37 ?_
        refine v_iload_n C dX5_cellsDarkInAll_38 rfl 0 rfl ?_
        refine v_callVi C (c_Gr_row l G ad (cw G ad lf chM chR chN chK md sp dS dL dR dF dP lS lL lR lF lP sS sL sT sD sM sX mk si sl sf ss) (26 + 2 * (2 : Int32).toNatClampNeg) (cw_mkR G ad lf chM chR chN chK md sp dS dL dR dF dP lS lL lR lF lP sS sL sT sD sM sX mk si sl sf ss (qm_lt4 hin_3))  x2_1 h) (26 + 2 * (2 : Int32).toNatClampNeg) (cw_mkR G ad lf chM chR chN chK md sp dS dL dR dF dP lS lL lR lF lP sS sL sT sD sM sX mk si sl sf ss (qm_lt4 hin_3)).1 rfl gX5_cellsDarkInAll_X1_row rfl kX1_row ⟨rfl, rfl⟩ ⟨Nat.le_of_ble_eq_true rfl, Nat.le_of_ble_eq_true rfl⟩ rfl (Nat.le_of_ble_eq_true rfl) dX5_cellsDarkInAll_39 (fun r_3 _ h => ?_)
        try dsimp only at h
        refine v_iand C dX5_cellsDarkInAll_42 ?_
        refine v_aload_n C dX5_cellsDarkInAll_43 rfl 2 rfl ?_
        refine v_get C iX5_cellsDarkInAll_5 0 rfl rfl 0 (by decide) mX5_cellsDarkInAll_w1 rfl rfl dX5_cellsDarkInAll_44 ?_
        refine v_iconst C 3 dX5_cellsDarkInAll_47 (by decide) ?_
        obtain ⟨hin_4, h⟩ := h
        refine v_aldG C 1 rfl hin_4 rfl dX5_cellsDarkInAll_48 ?_
        refine v_iload_n C dX5_cellsDarkInAll_49 rfl 0 rfl ?_
        refine v_callVi C (c_Gr_row l G ad (cw G ad lf chM chR chN chK md sp dS dL dR dF dP lS lL lR lF lP sS sL sT sD sM sX mk si sl sf ss) (26 + 2 * (3 : Int32).toNatClampNeg) (cw_mkR G ad lf chM chR chN chK md sp dS dL dR dF dP lS lL lR lF lP sS sL sT sD sM sX mk si sl sf ss (qm_lt4 hin_4))  x2_1 h) (26 + 2 * (3 : Int32).toNatClampNeg) (cw_mkR G ad lf chM chR chN chK md sp dS dL dR dF dP lS lL lR lF lP sS sL sT sD sM sX mk si sl sf ss (qm_lt4 hin_4)).1 rfl gX5_cellsDarkInAll_X1_row rfl kX1_row ⟨rfl, rfl⟩ ⟨Nat.le_of_ble_eq_true rfl, Nat.le_of_ble_eq_true rfl⟩ rfl (Nat.le_of_ble_eq_true rfl) dX5_cellsDarkInAll_50 (fun r_4 _ h => ?_)
        try dsimp only at h
        refine v_iand C dX5_cellsDarkInAll_53 ?_
        refine v_callSi C (c_In_bitCount l G (cw G ad lf chM chR chN chK md sp dS dL dR dF dP lS lL lR lF lP sS sL sT sD sM sX mk si sl sf ss) (((r_1 &&& r_2) &&& r_3) &&& r_4) h) gX5_cellsDarkInAll_J6_bitCount_0f7a4 rfl kJ6_bitCount_0f7a4 ⟨rfl, rfl⟩ ⟨Nat.le_of_ble_eq_true rfl, Nat.le_of_ble_eq_true rfl⟩ rfl (Nat.le_of_ble_eq_true rfl) dX5_cellsDarkInAll_54 (fun r_5 _ h => ?_)
        try dsimp only at h
        refine v_iadd C dX5_cellsDarkInAll_57 ?_
        refine v_topi (fun x1_2 ex1_2 => ?_)
        replace h := h x1_2 ex1_2
        refine v_istore_n C [(1, .int x1_2), (2, .int x2_1), (0, .ref (ad 0))] dX5_cellsDarkInAll_58 rfl (by decide) rfl ?_
        refine v_iinc C (x2_1 + 1) 1 [(2, .int (x2_1 + 1)), (1, .int x1_2), (0, .ref (ad 0))] dX5_cellsDarkInAll_59 rfl rfl (by decide) rfl ?_
        refine v_goto C 4 dX5_cellsDarkInAll_62 (by decide) ?_
        exact ih_1 (x2_1 + 1) x1_2 h
  obtain ⟨k_1, h⟩ := h
  exact hl_1 k_1 0 0 h
-- QuarterMasks.count
def rmX5_count : Room := { frames := 11, cells := 0, slots := 0, locals := 292 }
theorem kX5_count : yX5_count.cls = RX5 ∧ yX5_count.cls ≠ "java/lang/invoke/MethodHandle" ∧ yX5_count.cls ≠ "java/lang/invoke/VarHandle" ∧ (parseMethodDescriptor yX5_count.desc).map (fun d => d.parameters.length) = some 1 := by decide +kernel
theorem mX5_count_w1 : Cond.fieldLink RX5 11 "QuarterMasks" "masks" "[LQuarterMasks$Grid;" ∈ wsX5_count := List.mem_of_getElem? (i := 1) rfl
theorem iX5_count_5 : ∀ w ∈ wsX50, w ∈ wsX5_count := fun w h => List.mem_cons_of_mem _ (List.mem_append_left _ (List.mem_append_left _ (List.mem_append_left _ (List.mem_append_left _ (List.mem_append_right _ h)))))
theorem mX5_count_w2 : Cond.fieldLink RX5 24 "QuarterMasks" "changes" "LQuarterMasks$Changes;" ∈ wsX5_count := List.mem_of_getElem? (i := 2) rfl
theorem iX5_count_0 : ∀ w ∈ wsX00, w ∈ wsX5_count := fun w h => List.mem_cons_of_mem _ (List.mem_append_left _ (List.mem_append_left _ (List.mem_append_left _ (List.mem_append_right _ h))))
theorem mX5_count_w3 : Cond.fieldLink RX5 53 "QuarterMasks" "latestFinding" "I" ∈ wsX5_count := List.mem_of_getElem? (i := 3) rfl
def wp_Qm_count (lf : Int32) (chK : Int32) (dS : IA) (dL : IA) (dR : IA) (dF : IA) (dP : Int32) (sS : IA) (sL : IA) (sT : Int32) (sD : Int32) (sM : Int32) (sX : Int32) (mk : Nat → IA) (a1 : Int32) (Q : Int32 → IA → IA → IA → IA → Int32 → IA → IA → Int32 → Int32 → Int32 → Int32 → Prop) : Prop :=
  (a1 = 0 → (vp_in a1 4 ∧ (wp_Gr_darkCells (mk a1.toNatClampNeg) (fun r_1 => Q r_1 dS dL dR dF dP sS sL sT sD sM sX)))) ∧ (¬ a1 = 0 → ((a1 = 1 → (vp_in a1 4 ∧ (wp_Gr_darkCells (mk a1.toNatClampNeg) (fun r_2 => Q r_2 dS dL dR dF dP sS sL sT sD sM sX)))) ∧ (¬ a1 = 1 → ((a1 = 2 → (vp_in a1 4 ∧ (wp_Gr_darkCells (mk a1.toNatClampNeg) (fun r_3 => Q r_3 dS dL dR dF dP sS sL sT sD sM sX)))) ∧ (¬ a1 = 2 → ((a1 = 3 → (vp_in a1 4 ∧ (wp_Gr_darkCells (mk a1.toNatClampNeg) (fun r_4 => Q r_4 dS dL dR dF dP sS sL sT sD sM sX)))) ∧ (¬ a1 = 3 → ((a1 = 4 → (wp_Qm_blocksOfAll sS sL sT sD sM sX mk (fun r_5 m_sS_1 m_sL_1 m_sT_1 m_sD_1 m_sM_1 m_sX_1 => Q r_5 dS dL dR dF dP m_sS_1 m_sL_1 m_sT_1 m_sD_1 m_sM_1 m_sX_1))) ∧ (¬ a1 = 4 → ((a1 = 5 → (wp_Qm_partsOfAll dS dL dR dF dP mk (fun r_6 m_dS_1 m_dL_1 m_dR_1 m_dF_1 m_dP_1 => Q r_6 m_dS_1 m_dL_1 m_dR_1 m_dF_1 m_dP_1 sS sL sT sD sM sX))) ∧ (¬ a1 = 5 → ((a1 = 6 → (Q chK dS dL dR dF dP sS sL sT sD sM sX)) ∧ (¬ a1 = 6 → ((a1 = 7 → (wp_Qm_cellsDarkInAll mk (fun r_7 => Q r_7 dS dL dR dF dP sS sL sT sD sM sX))) ∧ (¬ a1 = 7 → ((a1 = 8 → (Q lf dS dL dR dF dP sS sL sT sD sM sX)) ∧ (¬ a1 = 8 → (Q (-2) dS dL dR dF dP sS sL sT sD sM sX))))))))))))))))))
set_option maxHeartbeats 4000000 in
theorem c_Qm_count (l : Launch) (G : GG) (ad : Nat → Nat) (lf : Int32) (chM : IA) (chR : IA) (chN : Int32) (chK : Int32) (md : IA) (sp : IA) (dS : IA) (dL : IA) (dR : IA) (dF : IA) (dP : Int32) (lS : IA) (lL : IA) (lR : IA) (lF : IA) (lP : Int32) (sS : IA) (sL : IA) (sT : Int32) (sD : Int32) (sM : Int32) (sX : Int32) (mk : Nat → IA) (si : Nat → IA) (sl : IA) (sf : IA) (ss : IA) (a1 : Int32) {Q : Int32 → IA → IA → IA → IA → Int32 → IA → IA → Int32 → Int32 → Int32 → Int32 → Prop} (h : wp_Qm_count lf chK dS dL dR dF dP sS sL sT sD sM sX mk a1 Q) : qm_MI l yX5_count wsX5_count rmX5_count G [.ref (ad 0), .int a1] (cw G ad lf chM chR chN chK md sp dS dL dR dF dP lS lL lR lF lP sS sL sT sD sM sX mk si sl sf ss) (fun (r : Int32) (u : IA × IA × IA × IA × Int32 × IA × IA × Int32 × Int32 × Int32 × Int32) => Q r u.1 u.2.1 u.2.2.1 u.2.2.2.1 u.2.2.2.2.1 u.2.2.2.2.2.1 u.2.2.2.2.2.2.1 u.2.2.2.2.2.2.2.1 u.2.2.2.2.2.2.2.2.1 u.2.2.2.2.2.2.2.2.2.1 u.2.2.2.2.2.2.2.2.2.2) (fun (u : IA × IA × IA × IA × Int32 × IA × IA × Int32 × Int32 × Int32 × Int32) => cw G ad lf chM chR chN chK md sp u.1 u.2.1 u.2.2.1 u.2.2.2.1 u.2.2.2.2.1 lS lL lR lF lP u.2.2.2.2.2.1 u.2.2.2.2.2.2.1 u.2.2.2.2.2.2.2.1 u.2.2.2.2.2.2.2.2.1 u.2.2.2.2.2.2.2.2.2.1 u.2.2.2.2.2.2.2.2.2.2 mk si sl sf ss) := by
  refine qm_mkI (cc := cX5_count) (maxL := 2) (by decide) rfl (Nat.le_of_ble_eq_true rfl) ?_
  intro X C hret
  replace C : qm_C G 2 X cX5_count wsX5_count RX5 := C
  refine v_lv (lv' := [(0, .ref (ad 0)), (1, .int a1)]) rfl ?_
  unfold wp_Qm_count at h
  refine v_iload_n C dX5_count_0 rfl 1 rfl ?_
  by_cases c_1 : a1 = 0
  · replace h := h.1 c_1
    refine v_tin C 0 52 c_1 dX5_count_1 (by decide) rfl (by decide) ?_
    refine v_aload_n C dX5_count_52 rfl 0 rfl ?_
    refine v_get C iX5_count_5 0 rfl rfl 0 (by decide) mX5_count_w1 rfl rfl dX5_count_53 ?_
    refine v_iload_n C dX5_count_56 rfl 1 rfl ?_
    obtain ⟨hin_1, h⟩ := h
    refine v_aldG C 1 rfl hin_1 rfl dX5_count_57 ?_
    refine v_callVi C (c_Gr_darkCells l G ad (cw G ad lf chM chR chN chK md sp dS dL dR dF dP lS lL lR lF lP sS sL sT sD sM sX mk si sl sf ss) (26 + 2 * a1.toNatClampNeg) (cw_mkR G ad lf chM chR chN chK md sp dS dL dR dF dP lS lL lR lF lP sS sL sT sD sM sX mk si sl sf ss (qm_lt4 hin_1))  h) (26 + 2 * a1.toNatClampNeg) (cw_mkR G ad lf chM chR chN chK md sp dS dL dR dF dP lS lL lR lF lP sS sL sT sD sM sX mk si sl sf ss (qm_lt4 hin_1)).1 rfl gX5_count_X1_darkCells rfl kX1_darkCells ⟨rfl, rfl⟩ ⟨Nat.le_of_ble_eq_true rfl, Nat.le_of_ble_eq_true rfl⟩ rfl (Nat.le_of_ble_eq_true rfl) dX5_count_58 (fun r_1 _ h => ?_)
    try dsimp only at h
    exact hret _ _ _ r_1 (dS, dL, dR, dF, dP, sS, sL, sT, sD, sM, sX) h rfl dX5_count_61
  · replace h := h.2 c_1
    by_cases c_2 : a1 = 1
    · replace h := h.1 c_2
      refine v_tin C 1 52 c_2 dX5_count_1 (by decide) rfl (by decide) ?_
      refine v_aload_n C dX5_count_52 rfl 0 rfl ?_
      refine v_get C iX5_count_5 0 rfl rfl 0 (by decide) mX5_count_w1 rfl rfl dX5_count_53 ?_
      refine v_iload_n C dX5_count_56 rfl 1 rfl ?_
      obtain ⟨hin_2, h⟩ := h
      refine v_aldG C 1 rfl hin_2 rfl dX5_count_57 ?_
      refine v_callVi C (c_Gr_darkCells l G ad (cw G ad lf chM chR chN chK md sp dS dL dR dF dP lS lL lR lF lP sS sL sT sD sM sX mk si sl sf ss) (26 + 2 * a1.toNatClampNeg) (cw_mkR G ad lf chM chR chN chK md sp dS dL dR dF dP lS lL lR lF lP sS sL sT sD sM sX mk si sl sf ss (qm_lt4 hin_2))  h) (26 + 2 * a1.toNatClampNeg) (cw_mkR G ad lf chM chR chN chK md sp dS dL dR dF dP lS lL lR lF lP sS sL sT sD sM sX mk si sl sf ss (qm_lt4 hin_2)).1 rfl gX5_count_X1_darkCells rfl kX1_darkCells ⟨rfl, rfl⟩ ⟨Nat.le_of_ble_eq_true rfl, Nat.le_of_ble_eq_true rfl⟩ rfl (Nat.le_of_ble_eq_true rfl) dX5_count_58 (fun r_2 _ h => ?_)
      try dsimp only at h
      exact hret _ _ _ r_2 (dS, dL, dR, dF, dP, sS, sL, sT, sD, sM, sX) h rfl dX5_count_61
    · replace h := h.2 c_2
      by_cases c_3 : a1 = 2
      · replace h := h.1 c_3
        refine v_tin C 2 52 c_3 dX5_count_1 (by decide) rfl (by decide) ?_
        refine v_aload_n C dX5_count_52 rfl 0 rfl ?_
        refine v_get C iX5_count_5 0 rfl rfl 0 (by decide) mX5_count_w1 rfl rfl dX5_count_53 ?_
        refine v_iload_n C dX5_count_56 rfl 1 rfl ?_
        obtain ⟨hin_3, h⟩ := h
        refine v_aldG C 1 rfl hin_3 rfl dX5_count_57 ?_
        refine v_callVi C (c_Gr_darkCells l G ad (cw G ad lf chM chR chN chK md sp dS dL dR dF dP lS lL lR lF lP sS sL sT sD sM sX mk si sl sf ss) (26 + 2 * a1.toNatClampNeg) (cw_mkR G ad lf chM chR chN chK md sp dS dL dR dF dP lS lL lR lF lP sS sL sT sD sM sX mk si sl sf ss (qm_lt4 hin_3))  h) (26 + 2 * a1.toNatClampNeg) (cw_mkR G ad lf chM chR chN chK md sp dS dL dR dF dP lS lL lR lF lP sS sL sT sD sM sX mk si sl sf ss (qm_lt4 hin_3)).1 rfl gX5_count_X1_darkCells rfl kX1_darkCells ⟨rfl, rfl⟩ ⟨Nat.le_of_ble_eq_true rfl, Nat.le_of_ble_eq_true rfl⟩ rfl (Nat.le_of_ble_eq_true rfl) dX5_count_58 (fun r_3 _ h => ?_)
        try dsimp only at h
        exact hret _ _ _ r_3 (dS, dL, dR, dF, dP, sS, sL, sT, sD, sM, sX) h rfl dX5_count_61
      · replace h := h.2 c_3
        by_cases c_4 : a1 = 3
        · replace h := h.1 c_4
          refine v_tin C 3 52 c_4 dX5_count_1 (by decide) rfl (by decide) ?_
          refine v_aload_n C dX5_count_52 rfl 0 rfl ?_
          refine v_get C iX5_count_5 0 rfl rfl 0 (by decide) mX5_count_w1 rfl rfl dX5_count_53 ?_
          refine v_iload_n C dX5_count_56 rfl 1 rfl ?_
          obtain ⟨hin_4, h⟩ := h
          refine v_aldG C 1 rfl hin_4 rfl dX5_count_57 ?_
          refine v_callVi C (c_Gr_darkCells l G ad (cw G ad lf chM chR chN chK md sp dS dL dR dF dP lS lL lR lF lP sS sL sT sD sM sX mk si sl sf ss) (26 + 2 * a1.toNatClampNeg) (cw_mkR G ad lf chM chR chN chK md sp dS dL dR dF dP lS lL lR lF lP sS sL sT sD sM sX mk si sl sf ss (qm_lt4 hin_4))  h) (26 + 2 * a1.toNatClampNeg) (cw_mkR G ad lf chM chR chN chK md sp dS dL dR dF dP lS lL lR lF lP sS sL sT sD sM sX mk si sl sf ss (qm_lt4 hin_4)).1 rfl gX5_count_X1_darkCells rfl kX1_darkCells ⟨rfl, rfl⟩ ⟨Nat.le_of_ble_eq_true rfl, Nat.le_of_ble_eq_true rfl⟩ rfl (Nat.le_of_ble_eq_true rfl) dX5_count_58 (fun r_4 _ h => ?_)
          try dsimp only at h
          exact hret _ _ _ r_4 (dS, dL, dR, dF, dP, sS, sL, sT, sD, sM, sX) h rfl dX5_count_61
        · replace h := h.2 c_4
          by_cases c_5 : a1 = 4
          · replace h := h.1 c_5
            refine v_tin C 4 62 c_5 dX5_count_1 (by decide) rfl (by decide) ?_
            refine v_aload_n C dX5_count_62 rfl 0 rfl ?_
            refine v_callVi C (c_Qm_blocksOfAll l G ad lf chM chR chN chK md sp dS dL dR dF dP lS lL lR lF lP sS sL sT sD sM sX mk si sl sf ss h) 0 rfl rfl gX5_count_X5_blocksOfAll rfl kX5_blocksOfAll ⟨rfl, rfl⟩ ⟨Nat.le_of_ble_eq_true rfl, Nat.le_of_ble_eq_true rfl⟩ rfl (Nat.le_of_ble_eq_true rfl) dX5_count_63 (fun r_5 u h => ?_)
            obtain ⟨m_sS_1, m_sL_1, m_sT_1, m_sD_1, m_sM_1, m_sX_1⟩ := u
            try dsimp only at h
            refine v_world (ws' := cw G ad lf chM chR chN chK md sp dS dL dR dF dP lS lL lR lF lP m_sS_1 m_sL_1 m_sT_1 m_sD_1 m_sM_1 m_sX_1 mk si sl sf ss) rfl ?_
            exact hret _ _ _ r_5 (dS, dL, dR, dF, dP, m_sS_1, m_sL_1, m_sT_1, m_sD_1, m_sM_1, m_sX_1) h rfl dX5_count_66
          · replace h := h.2 c_5
            by_cases c_6 : a1 = 5
            · replace h := h.1 c_6
              refine v_tin C 5 67 c_6 dX5_count_1 (by decide) rfl (by decide) ?_
              refine v_aload_n C dX5_count_67 rfl 0 rfl ?_
              refine v_callVi C (c_Qm_partsOfAll l G ad lf chM chR chN chK md sp dS dL dR dF dP lS lL lR lF lP sS sL sT sD sM sX mk si sl sf ss h) 0 rfl rfl gX5_count_X5_partsOfAll rfl kX5_partsOfAll ⟨rfl, rfl⟩ ⟨Nat.le_of_ble_eq_true rfl, Nat.le_of_ble_eq_true rfl⟩ rfl (Nat.le_of_ble_eq_true rfl) dX5_count_68 (fun r_6 u h => ?_)
              obtain ⟨m_dS_1, m_dL_1, m_dR_1, m_dF_1, m_dP_1⟩ := u
              try dsimp only at h
              refine v_world (ws' := cw G ad lf chM chR chN chK md sp m_dS_1 m_dL_1 m_dR_1 m_dF_1 m_dP_1 lS lL lR lF lP sS sL sT sD sM sX mk si sl sf ss) rfl ?_
              exact hret _ _ _ r_6 (m_dS_1, m_dL_1, m_dR_1, m_dF_1, m_dP_1, sS, sL, sT, sD, sM, sX) h rfl dX5_count_71
            · replace h := h.2 c_6
              by_cases c_7 : a1 = 6
              · replace h := h.1 c_7
                refine v_tin C 6 72 c_7 dX5_count_1 (by decide) rfl (by decide) ?_
                refine v_aload_n C dX5_count_72 rfl 0 rfl ?_
                refine v_get C iX5_count_5 0 rfl rfl 2 (by decide) mX5_count_w2 rfl rfl dX5_count_73 ?_
                refine v_getN C iX5_count_0 3 rfl rfl 3 (by decide) (fun _ h => h.2.2.2.2.1) rfl rfl dX5_count_76 ?_
                exact hret _ _ _ chK (dS, dL, dR, dF, dP, sS, sL, sT, sD, sM, sX) h rfl dX5_count_79
              · replace h := h.2 c_7
                by_cases c_8 : a1 = 7
                · replace h := h.1 c_8
                  refine v_tin C 7 80 c_8 dX5_count_1 (by decide) rfl (by decide) ?_
                  refine v_aload_n C dX5_count_80 rfl 0 rfl ?_
                  refine v_callVi C (c_Qm_cellsDarkInAll l G ad lf chM chR chN chK md sp dS dL dR dF dP lS lL lR lF lP sS sL sT sD sM sX mk si sl sf ss h) 0 rfl rfl gX5_count_X5_cellsDarkInAll rfl kX5_cellsDarkInAll ⟨rfl, rfl⟩ ⟨Nat.le_of_ble_eq_true rfl, Nat.le_of_ble_eq_true rfl⟩ rfl (Nat.le_of_ble_eq_true rfl) dX5_count_81 (fun r_7 _ h => ?_)
                  try dsimp only at h
                  exact hret _ _ _ r_7 (dS, dL, dR, dF, dP, sS, sL, sT, sD, sM, sX) h rfl dX5_count_84
                · replace h := h.2 c_8
                  by_cases c_9 : a1 = 8
                  · replace h := h.1 c_9
                    refine v_tin C 8 85 c_9 dX5_count_1 (by decide) rfl (by decide) ?_
                    refine v_aload_n C dX5_count_85 rfl 0 rfl ?_
                    refine v_get C iX5_count_5 0 rfl rfl 8 (by decide) mX5_count_w3 rfl rfl dX5_count_86 ?_
                    exact hret _ _ _ lf (dS, dL, dR, dF, dP, sS, sL, sT, sD, sM, sX) h rfl dX5_count_89
                  · replace h := h.2 c_9
                    have n1_0 := lv_neT c_1 (a := 0) (by decide)
                    have n1_1 := lv_neT c_2 (a := 1) (by decide)
                    have n1_2 := lv_neT c_3 (a := 2) (by decide)
                    have n1_3 := lv_neT c_4 (a := 3) (by decide)
                    have n1_4 := lv_neT c_5 (a := 4) (by decide)
                    have n1_5 := lv_neT c_6 (a := 5) (by decide)
                    have n1_6 := lv_neT c_7 (a := 6) (by decide)
                    have n1_7 := lv_neT c_8 (a := 7) (by decide)
                    have n1_8 := lv_neT c_9 (a := 8) (by decide)
                    refine v_tout C 90 dX5_count_1 (by omega) (by decide) ?_
                    refine v_bipush C (-2) dX5_count_90 (by decide) ?_
                    exact hret _ _ _ (-2) (dS, dL, dR, dF, dP, sS, sL, sT, sD, sM, sX) h rfl dX5_count_92
-- QuarterMasks.digestOfBlocks
def rmX5_digestOfBlocks : Room := { frames := 11, cells := 0, slots := 0, locals := 292 }
theorem kX5_digestOfBlocks : yX5_digestOfBlocks.cls = RX5 ∧ yX5_digestOfBlocks.cls ≠ "java/lang/invoke/MethodHandle" ∧ yX5_digestOfBlocks.cls ≠ "java/lang/invoke/VarHandle" ∧ (parseMethodDescriptor yX5_digestOfBlocks.desc).map (fun d => d.parameters.length) = some 2 := by decide +kernel
theorem mX5_digestOfBlocks_w1 : Cond.constantLong RX5 251 (31) ∈ wsX5_digestOfBlocks := List.mem_of_getElem? (i := 1) rfl
def wl_Qm_digestOfBlocks_70 (mk : Nat → IA) (a3 : Int32) (Q : Int64 → IA → IA → IA → IA → IA → Int32 → IA → IA → IA → IA → Int32 → IA → IA → Int32 → Int32 → Int32 → Int32 → Prop) (sp_2 : IA) (dS_2 : IA) (dL_2 : IA) (dR_2 : IA) (dF_2 : IA) (dP_2 : Int32) (lS_2 : IA) (lL_2 : IA) (lR_2 : IA) (lF_2 : IA) (lP_2 : Int32) : Nat → Int32 → Int64 → IA → IA → Int32 → Int32 → Int32 → Int32 → Prop
  | 0, _, _, _, _, _, _, _, _ => False
  | n + 1, x6_5, x4_5, sS_3, sL_3, sT_3, sD_3, sM_3, sX_3 => (40 < x6_5 → (Q x4_5 sp_2 dS_2 dL_2 dR_2 dF_2 dP_2 lS_2 lL_2 lR_2 lF_2 lP_2 sS_3 sL_3 sT_3 sD_3 sM_3 sX_3)) ∧ (¬ 40 < x6_5 → (wp_Qm_shown sS_3 sL_3 sT_3 sD_3 sM_3 sX_3 mk a3 x6_5 (fun r_1 m_sS_1 m_sL_1 m_sT_1 m_sD_1 m_sM_1 m_sX_1 => ∀ x4_6 : Int64, x4_6 = ((31 * x4_5) + (Int32.toInt64 r_1)) → ((wl_Qm_digestOfBlocks_70 mk a3 Q sp_2 dS_2 dL_2 dR_2 dF_2 dP_2 lS_2 lL_2 lR_2 lF_2 lP_2 n) (x6_5 + 1) x4_6 m_sS_1 m_sL_1 m_sT_1 m_sD_1 m_sM_1 m_sX_1))))
def wx_Qm_digestOfBlocks_67 (mk : Nat → IA) (a3 : Int32) (Q : Int64 → IA → IA → IA → IA → IA → Int32 → IA → IA → IA → IA → Int32 → IA → IA → Int32 → Int32 → Int32 → Int32 → Prop) (sS_2 : IA) (sL_2 : IA) (sT_2 : Int32) (sD_2 : Int32) (sM_2 : Int32) (sX_2 : Int32) (x6_4 : Int32) (x4_4 : Int64) (sp_2 : IA) (dS_2 : IA) (dL_2 : IA) (dR_2 : IA) (dF_2 : IA) (dP_2 : Int32) (lS_2 : IA) (lL_2 : IA) (lR_2 : IA) (lF_2 : IA) (lP_2 : Int32) : Prop :=
  ∃ k_1 : Nat, wl_Qm_digestOfBlocks_70 mk a3 Q sp_2 dS_2 dL_2 dR_2 dF_2 dP_2 lS_2 lL_2 lR_2 lF_2 lP_2 k_1 (-1) x4_4 sS_2 sL_2 sT_2 sD_2 sM_2 sX_2
def wl_Qm_digestOfBlocks_38 (mk : Nat → IA) (a3 : Int32) (Kx_1 : Int32 → Int64 → IA → IA → IA → IA → IA → Int32 → IA → IA → IA → IA → Int32 → Prop) : Nat → Int32 → Int64 → IA → IA → IA → IA → IA → Int32 → IA → IA → IA → IA → Int32 → Prop
  | 0, _, _, _, _, _, _, _, _, _, _, _, _, _ => False
  | n + 1, x6_3, x4_3, sp_1, dS_1, dL_1, dR_1, dF_1, dP_1, lS_1, lL_1, lR_1, lF_1, lP_1 => (3 < x6_3 → (Kx_1 x6_3 x4_3 sp_1 dS_1 dL_1 dR_1 dF_1 dP_1 lS_1 lL_1 lR_1 lF_1 lP_1)) ∧ (¬ 3 < x6_3 → (wp_Qm_all sp_1 dS_1 dL_1 dR_1 dF_1 dP_1 lS_1 lL_1 lR_1 lF_1 lP_1 mk a3 x6_3 (fun r_2 m_sp_1 m_dS_1 m_dL_1 m_dR_1 m_dF_1 m_dP_1 m_lS_1 m_lL_1 m_lR_1 m_lF_1 m_lP_1 => ∀ x4_7 : Int64, x4_7 = ((31 * x4_3) + (Int32.toInt64 r_2)) → ((wl_Qm_digestOfBlocks_38 mk a3 Kx_1 n) (x6_3 + 1) x4_7 m_sp_1 m_dS_1 m_dL_1 m_dR_1 m_dF_1 m_dP_1 m_lS_1 m_lL_1 m_lR_1 m_lF_1 m_lP_1))))
def wx_Qm_digestOfBlocks_35 (sp : IA) (dS : IA) (dL : IA) (dR : IA) (dF : IA) (dP : Int32) (lS : IA) (lL : IA) (lR : IA) (lF : IA) (lP : Int32) (mk : Nat → IA) (a3 : Int32) (Q : Int64 → IA → IA → IA → IA → IA → Int32 → IA → IA → IA → IA → Int32 → IA → IA → Int32 → Int32 → Int32 → Int32 → Prop) (x6_2 : Int32) (x4_2 : Int64) (sS_2 : IA) (sL_2 : IA) (sT_2 : Int32) (sD_2 : Int32) (sM_2 : Int32) (sX_2 : Int32) : Prop :=
  ∃ k_2 : Nat, wl_Qm_digestOfBlocks_38 mk a3 (wx_Qm_digestOfBlocks_67 mk a3 Q sS_2 sL_2 sT_2 sD_2 sM_2 sX_2) k_2 0 x4_2 sp dS dL dR dF dP lS lL lR lF lP
def wl_Qm_digestOfBlocks_6 (mk : Nat → IA) (a3 : Int32) (Kx_2 : Int32 → Int64 → IA → IA → Int32 → Int32 → Int32 → Int32 → Prop) : Nat → Int32 → Int64 → IA → IA → Int32 → Int32 → Int32 → Int32 → Prop
  | 0, _, _, _, _, _, _, _, _ => False
  | n + 1, x6_1, x4_1, sS_1, sL_1, sT_1, sD_1, sM_1, sX_1 => (3 < x6_1 → (Kx_2 x6_1 x4_1 sS_1 sL_1 sT_1 sD_1 sM_1 sX_1)) ∧ (¬ 3 < x6_1 → (wp_Qm_blocks sS_1 sL_1 sT_1 sD_1 sM_1 sX_1 mk a3 x6_1 (fun r_3 m_sS_2 m_sL_2 m_sT_2 m_sD_2 m_sM_2 m_sX_2 => ∀ x4_8 : Int64, x4_8 = ((31 * x4_1) + (Int32.toInt64 r_3)) → ((wl_Qm_digestOfBlocks_6 mk a3 Kx_2 n) (x6_1 + 1) x4_8 m_sS_2 m_sL_2 m_sT_2 m_sD_2 m_sM_2 m_sX_2))))
def wp_Qm_digestOfBlocks (sp : IA) (dS : IA) (dL : IA) (dR : IA) (dF : IA) (dP : Int32) (lS : IA) (lL : IA) (lR : IA) (lF : IA) (lP : Int32) (sS : IA) (sL : IA) (sT : Int32) (sD : Int32) (sM : Int32) (sX : Int32) (mk : Nat → IA) (a1 : Int64) (a3 : Int32) (Q : Int64 → IA → IA → IA → IA → IA → Int32 → IA → IA → IA → IA → Int32 → IA → IA → Int32 → Int32 → Int32 → Int32 → Prop) : Prop :=
  ∃ k_3 : Nat, wl_Qm_digestOfBlocks_6 mk a3 (wx_Qm_digestOfBlocks_35 sp dS dL dR dF dP lS lL lR lF lP mk a3 Q) k_3 0 a1 sS sL sT sD sM sX
set_option maxHeartbeats 4000000 in
theorem c_Qm_digestOfBlocks (l : Launch) (G : GG) (ad : Nat → Nat) (lf : Int32) (chM : IA) (chR : IA) (chN : Int32) (chK : Int32) (md : IA) (sp : IA) (dS : IA) (dL : IA) (dR : IA) (dF : IA) (dP : Int32) (lS : IA) (lL : IA) (lR : IA) (lF : IA) (lP : Int32) (sS : IA) (sL : IA) (sT : Int32) (sD : Int32) (sM : Int32) (sX : Int32) (mk : Nat → IA) (si : Nat → IA) (sl : IA) (sf : IA) (ss : IA) (a1 : Int64) (a3 : Int32) {Q : Int64 → IA → IA → IA → IA → IA → Int32 → IA → IA → IA → IA → Int32 → IA → IA → Int32 → Int32 → Int32 → Int32 → Prop} (h : wp_Qm_digestOfBlocks sp dS dL dR dF dP lS lL lR lF lP sS sL sT sD sM sX mk a1 a3 Q) : qm_ML l yX5_digestOfBlocks wsX5_digestOfBlocks rmX5_digestOfBlocks G [.ref (ad 0), .long a1, .int a3] (cw G ad lf chM chR chN chK md sp dS dL dR dF dP lS lL lR lF lP sS sL sT sD sM sX mk si sl sf ss) (fun (r : Int64) (u : IA × IA × IA × IA × IA × Int32 × IA × IA × IA × IA × Int32 × IA × IA × Int32 × Int32 × Int32 × Int32) => Q r u.1 u.2.1 u.2.2.1 u.2.2.2.1 u.2.2.2.2.1 u.2.2.2.2.2.1 u.2.2.2.2.2.2.1 u.2.2.2.2.2.2.2.1 u.2.2.2.2.2.2.2.2.1 u.2.2.2.2.2.2.2.2.2.1 u.2.2.2.2.2.2.2.2.2.2.1 u.2.2.2.2.2.2.2.2.2.2.2.1 u.2.2.2.2.2.2.2.2.2.2.2.2.1 u.2.2.2.2.2.2.2.2.2.2.2.2.2.1 u.2.2.2.2.2.2.2.2.2.2.2.2.2.2.1 u.2.2.2.2.2.2.2.2.2.2.2.2.2.2.2.1 u.2.2.2.2.2.2.2.2.2.2.2.2.2.2.2.2) (fun (u : IA × IA × IA × IA × IA × Int32 × IA × IA × IA × IA × Int32 × IA × IA × Int32 × Int32 × Int32 × Int32) => cw G ad lf chM chR chN chK md u.1 u.2.1 u.2.2.1 u.2.2.2.1 u.2.2.2.2.1 u.2.2.2.2.2.1 u.2.2.2.2.2.2.1 u.2.2.2.2.2.2.2.1 u.2.2.2.2.2.2.2.2.1 u.2.2.2.2.2.2.2.2.2.1 u.2.2.2.2.2.2.2.2.2.2.1 u.2.2.2.2.2.2.2.2.2.2.2.1 u.2.2.2.2.2.2.2.2.2.2.2.2.1 u.2.2.2.2.2.2.2.2.2.2.2.2.2.1 u.2.2.2.2.2.2.2.2.2.2.2.2.2.2.1 u.2.2.2.2.2.2.2.2.2.2.2.2.2.2.2.1 u.2.2.2.2.2.2.2.2.2.2.2.2.2.2.2.2 mk si sl sf ss) := by
  refine qm_mkL (cc := cX5_digestOfBlocks) (maxL := 7) (by decide) rfl (Nat.le_of_ble_eq_true rfl) ?_
  intro X C hret
  replace C : qm_C G 7 X cX5_digestOfBlocks wsX5_digestOfBlocks RX5 := C
  refine v_lv (lv' := [(0, .ref (ad 0)), (1, .long a1), (3, .int a3)]) rfl ?_
  unfold wp_Qm_digestOfBlocks at h
  refine v_lload_n C dX5_digestOfBlocks_0 rfl 1 rfl ?_
  refine v_lstore C [(4, .long a1), (0, .ref (ad 0)), (1, .long a1), (3, .int a3)] dX5_digestOfBlocks_1 (by decide) rfl ?_
  refine v_iconst C 0 dX5_digestOfBlocks_3 (by decide) ?_
  refine v_istore C [(6, .int 0), (4, .long a1), (0, .ref (ad 0)), (1, .long a1), (3, .int a3)] dX5_digestOfBlocks_4 (by decide) rfl ?_
  have hx_2 : ∀ (x6_2 : Int32) (x4_2 : Int64) (sS_2 : IA) (sL_2 : IA) (sT_2 : Int32) (sD_2 : Int32) (sM_2 : Int32) (sX_2 : Int32), (wx_Qm_digestOfBlocks_35 sp dS dL dR dF dP lS lL lR lF lP mk a3 Q) x6_2 x4_2 sS_2 sL_2 sT_2 sD_2 sM_2 sX_2 → qm_V l G rmX5_digestOfBlocks 7 X (cw G ad lf chM chR chN chK md sp dS dL dR dF dP lS lL lR lF lP sS_2 sL_2 sT_2 sD_2 sM_2 sX_2 mk si sl sf ss) [(6, .int x6_2), (4, .long x4_2), (0, .ref (ad 0)), (1, .long a1), (3, .int a3)] 35 [] := by
    intro x6_2 x4_2 sS_2 sL_2 sT_2 sD_2 sM_2 sX_2 h
    unfold wx_Qm_digestOfBlocks_35 at h
    refine v_iconst C 0 dX5_digestOfBlocks_35 (by decide) ?_
    refine v_istore C [(6, .int 0), (4, .long x4_2), (0, .ref (ad 0)), (1, .long a1), (3, .int a3)] dX5_digestOfBlocks_36 (by decide) rfl ?_
    have hx_1 : ∀ (x6_4 : Int32) (x4_4 : Int64) (sp_2 : IA) (dS_2 : IA) (dL_2 : IA) (dR_2 : IA) (dF_2 : IA) (dP_2 : Int32) (lS_2 : IA) (lL_2 : IA) (lR_2 : IA) (lF_2 : IA) (lP_2 : Int32), (wx_Qm_digestOfBlocks_67 mk a3 Q sS_2 sL_2 sT_2 sD_2 sM_2 sX_2) x6_4 x4_4 sp_2 dS_2 dL_2 dR_2 dF_2 dP_2 lS_2 lL_2 lR_2 lF_2 lP_2 → qm_V l G rmX5_digestOfBlocks 7 X (cw G ad lf chM chR chN chK md sp_2 dS_2 dL_2 dR_2 dF_2 dP_2 lS_2 lL_2 lR_2 lF_2 lP_2 sS_2 sL_2 sT_2 sD_2 sM_2 sX_2 mk si sl sf ss) [(6, .int x6_4), (4, .long x4_4), (0, .ref (ad 0)), (1, .long a1), (3, .int a3)] 67 [] := by
      intro x6_4 x4_4 sp_2 dS_2 dL_2 dR_2 dF_2 dP_2 lS_2 lL_2 lR_2 lF_2 lP_2 h
      unfold wx_Qm_digestOfBlocks_67 at h
      refine v_iconst C (-1) dX5_digestOfBlocks_67 (by decide) ?_
      refine v_istore C [(6, .int (-1)), (4, .long x4_4), (0, .ref (ad 0)), (1, .long a1), (3, .int a3)] dX5_digestOfBlocks_68 (by decide) rfl ?_
      have hl_1 : ∀ n_1 : Nat, ∀ (x6_5 : Int32) (x4_5 : Int64) (sS_3 : IA) (sL_3 : IA) (sT_3 : Int32) (sD_3 : Int32) (sM_3 : Int32) (sX_3 : Int32), wl_Qm_digestOfBlocks_70 mk a3 Q sp_2 dS_2 dL_2 dR_2 dF_2 dP_2 lS_2 lL_2 lR_2 lF_2 lP_2 n_1 x6_5 x4_5 sS_3 sL_3 sT_3 sD_3 sM_3 sX_3 → qm_V l G rmX5_digestOfBlocks 7 X (cw G ad lf chM chR chN chK md sp_2 dS_2 dL_2 dR_2 dF_2 dP_2 lS_2 lL_2 lR_2 lF_2 lP_2 sS_3 sL_3 sT_3 sD_3 sM_3 sX_3 mk si sl sf ss) [(6, .int x6_5), (4, .long x4_5), (0, .ref (ad 0)), (1, .long a1), (3, .int a3)] 70 [] := by
        intro n_1
        induction n_1 with
        | zero =>
          intro x6_5 x4_5 sS_3 sL_3 sT_3 sD_3 sM_3 sX_3 h
          exact False.elim h
        | succ n_1 ih_1 =>
          intro x6_5 x4_5 sS_3 sL_3 sT_3 sD_3 sM_3 sX_3 h
          rw [wl_Qm_digestOfBlocks_70] at h
          refine v_iload C dX5_digestOfBlocks_70 0 rfl ?_
          refine v_bipush C 40 dX5_digestOfBlocks_72 (by decide) ?_
          refine v_icmp_gt C 100 dX5_digestOfBlocks_74 (by decide) (fun c_1 => ?_) (fun c_1 => ?_)
          · replace h := h.1 c_1
            refine v_lload C dX5_digestOfBlocks_100 1 rfl ?_
            exact hret _ _ _ x4_5 (sp_2, dS_2, dL_2, dR_2, dF_2, dP_2, lS_2, lL_2, lR_2, lF_2, lP_2, sS_3, sL_3, sT_3, sD_3, sM_3, sX_3) h rfl dX5_digestOfBlocks_102
          · replace h := h.2 c_1
            refine v_ldc2 C 31 mX5_digestOfBlocks_w1 dX5_digestOfBlocks_77 ?_
            refine v_lload C dX5_digestOfBlocks_80 1 rfl ?_
            refine v_lmul C dX5_digestOfBlocks_82 ?_
            refine v_aload_n C dX5_digestOfBlocks_83 rfl 2 rfl ?_
            refine v_iload_n C dX5_digestOfBlocks_84 rfl 4 rfl ?_
            refine v_iload C dX5_digestOfBlocks_85 0 rfl ?_
            refine v_callVi C (c_Qm_shown l G ad lf chM chR chN chK md sp_2 dS_2 dL_2 dR_2 dF_2 dP_2 lS_2 lL_2 lR_2 lF_2 lP_2 sS_3 sL_3 sT_3 sD_3 sM_3 sX_3 mk si sl sf ss a3 x6_5 h) 0 rfl rfl gX5_digestOfBlocks_X5_shown rfl kX5_shown ⟨rfl, rfl⟩ ⟨Nat.le_of_ble_eq_true rfl, Nat.le_of_ble_eq_true rfl⟩ rfl (Nat.le_of_ble_eq_true rfl) dX5_digestOfBlocks_87 (fun r_1 u h => ?_)
            obtain ⟨m_sS_1, m_sL_1, m_sT_1, m_sD_1, m_sM_1, m_sX_1⟩ := u
            try dsimp only at h
            refine v_world (ws' := cw G ad lf chM chR chN chK md sp_2 dS_2 dL_2 dR_2 dF_2 dP_2 lS_2 lL_2 lR_2 lF_2 lP_2 m_sS_1 m_sL_1 m_sT_1 m_sD_1 m_sM_1 m_sX_1 mk si sl sf ss) rfl ?_
            refine v_i2l C dX5_digestOfBlocks_90 ?_
            refine v_ladd C dX5_digestOfBlocks_91 ?_
            refine v_topl (fun x4_6 ex4_6 => ?_)
            replace h := h x4_6 ex4_6
            refine v_lstore C [(4, .long x4_6), (6, .int x6_5), (0, .ref (ad 0)), (1, .long a1), (3, .int a3)] dX5_digestOfBlocks_92 (by decide) rfl ?_
            refine v_iinc C (x6_5 + 1) 1 [(6, .int (x6_5 + 1)), (4, .long x4_6), (0, .ref (ad 0)), (1, .long a1), (3, .int a3)] dX5_digestOfBlocks_94 rfl rfl (by decide) rfl ?_
            refine v_goto C 70 dX5_digestOfBlocks_97 (by decide) ?_
            exact ih_1 (x6_5 + 1) x4_6 m_sS_1 m_sL_1 m_sT_1 m_sD_1 m_sM_1 m_sX_1 h
      obtain ⟨k_1, h⟩ := h
      exact hl_1 k_1 (-1) x4_4 sS_2 sL_2 sT_2 sD_2 sM_2 sX_2 h
    have hl_2 : ∀ n_2 : Nat, ∀ (x6_3 : Int32) (x4_3 : Int64) (sp_1 : IA) (dS_1 : IA) (dL_1 : IA) (dR_1 : IA) (dF_1 : IA) (dP_1 : Int32) (lS_1 : IA) (lL_1 : IA) (lR_1 : IA) (lF_1 : IA) (lP_1 : Int32), wl_Qm_digestOfBlocks_38 mk a3 (wx_Qm_digestOfBlocks_67 mk a3 Q sS_2 sL_2 sT_2 sD_2 sM_2 sX_2) n_2 x6_3 x4_3 sp_1 dS_1 dL_1 dR_1 dF_1 dP_1 lS_1 lL_1 lR_1 lF_1 lP_1 → qm_V l G rmX5_digestOfBlocks 7 X (cw G ad lf chM chR chN chK md sp_1 dS_1 dL_1 dR_1 dF_1 dP_1 lS_1 lL_1 lR_1 lF_1 lP_1 sS_2 sL_2 sT_2 sD_2 sM_2 sX_2 mk si sl sf ss) [(6, .int x6_3), (4, .long x4_3), (0, .ref (ad 0)), (1, .long a1), (3, .int a3)] 38 [] := by
      intro n_2
      induction n_2 with
      | zero =>
        intro x6_3 x4_3 sp_1 dS_1 dL_1 dR_1 dF_1 dP_1 lS_1 lL_1 lR_1 lF_1 lP_1 h
        exact False.elim h
      | succ n_2 ih_2 =>
        intro x6_3 x4_3 sp_1 dS_1 dL_1 dR_1 dF_1 dP_1 lS_1 lL_1 lR_1 lF_1 lP_1 h
        rw [wl_Qm_digestOfBlocks_38] at h
        refine v_iload C dX5_digestOfBlocks_38 0 rfl ?_
        refine v_iconst C 3 dX5_digestOfBlocks_40 (by decide) ?_
        refine v_icmp_gt C 67 dX5_digestOfBlocks_41 (by decide) (fun c_2 => ?_) (fun c_2 => ?_)
        · replace h := h.1 c_2
          exact hx_1 x6_3 x4_3 sp_1 dS_1 dL_1 dR_1 dF_1 dP_1 lS_1 lL_1 lR_1 lF_1 lP_1 h
        · replace h := h.2 c_2
          refine v_ldc2 C 31 mX5_digestOfBlocks_w1 dX5_digestOfBlocks_44 ?_
          refine v_lload C dX5_digestOfBlocks_47 1 rfl ?_
          refine v_lmul C dX5_digestOfBlocks_49 ?_
          refine v_aload_n C dX5_digestOfBlocks_50 rfl 2 rfl ?_
          refine v_iload_n C dX5_digestOfBlocks_51 rfl 4 rfl ?_
          refine v_iload C dX5_digestOfBlocks_52 0 rfl ?_
          refine v_callVi C (c_Qm_all l G ad lf chM chR chN chK md sp_1 dS_1 dL_1 dR_1 dF_1 dP_1 lS_1 lL_1 lR_1 lF_1 lP_1 sS_2 sL_2 sT_2 sD_2 sM_2 sX_2 mk si sl sf ss a3 x6_3 h) 0 rfl rfl gX5_digestOfBlocks_X5_all rfl kX5_all ⟨rfl, rfl⟩ ⟨Nat.le_of_ble_eq_true rfl, Nat.le_of_ble_eq_true rfl⟩ rfl (Nat.le_of_ble_eq_true rfl) dX5_digestOfBlocks_54 (fun r_2 u h => ?_)
          obtain ⟨m_sp_1, m_dS_1, m_dL_1, m_dR_1, m_dF_1, m_dP_1, m_lS_1, m_lL_1, m_lR_1, m_lF_1, m_lP_1⟩ := u
          try dsimp only at h
          refine v_world (ws' := cw G ad lf chM chR chN chK md m_sp_1 m_dS_1 m_dL_1 m_dR_1 m_dF_1 m_dP_1 m_lS_1 m_lL_1 m_lR_1 m_lF_1 m_lP_1 sS_2 sL_2 sT_2 sD_2 sM_2 sX_2 mk si sl sf ss) rfl ?_
          refine v_i2l C dX5_digestOfBlocks_57 ?_
          refine v_ladd C dX5_digestOfBlocks_58 ?_
          refine v_topl (fun x4_7 ex4_7 => ?_)
          replace h := h x4_7 ex4_7
          refine v_lstore C [(4, .long x4_7), (6, .int x6_3), (0, .ref (ad 0)), (1, .long a1), (3, .int a3)] dX5_digestOfBlocks_59 (by decide) rfl ?_
          refine v_iinc C (x6_3 + 1) 1 [(6, .int (x6_3 + 1)), (4, .long x4_7), (0, .ref (ad 0)), (1, .long a1), (3, .int a3)] dX5_digestOfBlocks_61 rfl rfl (by decide) rfl ?_
          refine v_goto C 38 dX5_digestOfBlocks_64 (by decide) ?_
          exact ih_2 (x6_3 + 1) x4_7 m_sp_1 m_dS_1 m_dL_1 m_dR_1 m_dF_1 m_dP_1 m_lS_1 m_lL_1 m_lR_1 m_lF_1 m_lP_1 h
    obtain ⟨k_2, h⟩ := h
    exact hl_2 k_2 0 x4_2 sp dS dL dR dF dP lS lL lR lF lP h
  have hl_3 : ∀ n_3 : Nat, ∀ (x6_1 : Int32) (x4_1 : Int64) (sS_1 : IA) (sL_1 : IA) (sT_1 : Int32) (sD_1 : Int32) (sM_1 : Int32) (sX_1 : Int32), wl_Qm_digestOfBlocks_6 mk a3 (wx_Qm_digestOfBlocks_35 sp dS dL dR dF dP lS lL lR lF lP mk a3 Q) n_3 x6_1 x4_1 sS_1 sL_1 sT_1 sD_1 sM_1 sX_1 → qm_V l G rmX5_digestOfBlocks 7 X (cw G ad lf chM chR chN chK md sp dS dL dR dF dP lS lL lR lF lP sS_1 sL_1 sT_1 sD_1 sM_1 sX_1 mk si sl sf ss) [(6, .int x6_1), (4, .long x4_1), (0, .ref (ad 0)), (1, .long a1), (3, .int a3)] 6 [] := by
    intro n_3
    induction n_3 with
    | zero =>
      intro x6_1 x4_1 sS_1 sL_1 sT_1 sD_1 sM_1 sX_1 h
      exact False.elim h
    | succ n_3 ih_3 =>
      intro x6_1 x4_1 sS_1 sL_1 sT_1 sD_1 sM_1 sX_1 h
      rw [wl_Qm_digestOfBlocks_6] at h
      refine v_iload C dX5_digestOfBlocks_6 0 rfl ?_
      refine v_iconst C 3 dX5_digestOfBlocks_8 (by decide) ?_
      refine v_icmp_gt C 35 dX5_digestOfBlocks_9 (by decide) (fun c_3 => ?_) (fun c_3 => ?_)
      · replace h := h.1 c_3
        exact hx_2 x6_1 x4_1 sS_1 sL_1 sT_1 sD_1 sM_1 sX_1 h
      · replace h := h.2 c_3
        refine v_ldc2 C 31 mX5_digestOfBlocks_w1 dX5_digestOfBlocks_12 ?_
        refine v_lload C dX5_digestOfBlocks_15 1 rfl ?_
        refine v_lmul C dX5_digestOfBlocks_17 ?_
        refine v_aload_n C dX5_digestOfBlocks_18 rfl 2 rfl ?_
        refine v_iload_n C dX5_digestOfBlocks_19 rfl 4 rfl ?_
        refine v_iload C dX5_digestOfBlocks_20 0 rfl ?_
        refine v_callVi C (c_Qm_blocks l G ad lf chM chR chN chK md sp dS dL dR dF dP lS lL lR lF lP sS_1 sL_1 sT_1 sD_1 sM_1 sX_1 mk si sl sf ss a3 x6_1 h) 0 rfl rfl gX5_digestOfBlocks_X5_blocks rfl kX5_blocks ⟨rfl, rfl⟩ ⟨Nat.le_of_ble_eq_true rfl, Nat.le_of_ble_eq_true rfl⟩ rfl (Nat.le_of_ble_eq_true rfl) dX5_digestOfBlocks_22 (fun r_3 u h => ?_)
        obtain ⟨m_sS_2, m_sL_2, m_sT_2, m_sD_2, m_sM_2, m_sX_2⟩ := u
        try dsimp only at h
        refine v_world (ws' := cw G ad lf chM chR chN chK md sp dS dL dR dF dP lS lL lR lF lP m_sS_2 m_sL_2 m_sT_2 m_sD_2 m_sM_2 m_sX_2 mk si sl sf ss) rfl ?_
        refine v_i2l C dX5_digestOfBlocks_25 ?_
        refine v_ladd C dX5_digestOfBlocks_26 ?_
        refine v_topl (fun x4_8 ex4_8 => ?_)
        replace h := h x4_8 ex4_8
        refine v_lstore C [(4, .long x4_8), (6, .int x6_1), (0, .ref (ad 0)), (1, .long a1), (3, .int a3)] dX5_digestOfBlocks_27 (by decide) rfl ?_
        refine v_iinc C (x6_1 + 1) 1 [(6, .int (x6_1 + 1)), (4, .long x4_8), (0, .ref (ad 0)), (1, .long a1), (3, .int a3)] dX5_digestOfBlocks_29 rfl rfl (by decide) rfl ?_
        refine v_goto C 6 dX5_digestOfBlocks_32 (by decide) ?_
        exact ih_3 (x6_1 + 1) x4_8 m_sS_2 m_sL_2 m_sT_2 m_sD_2 m_sM_2 m_sX_2 h
  obtain ⟨k_3, h⟩ := h
  exact hl_3 k_3 0 a1 sS sL sT sD sM sX h
-- QuarterMasks.digestOfCells
def rmX5_digestOfCells : Room := { frames := 6, cells := 0, slots := 0, locals := 155 }
theorem kX5_digestOfCells : yX5_digestOfCells.cls = RX5 ∧ yX5_digestOfCells.cls ≠ "java/lang/invoke/MethodHandle" ∧ yX5_digestOfCells.cls ≠ "java/lang/invoke/VarHandle" ∧ (parseMethodDescriptor yX5_digestOfCells.desc).map (fun d => d.parameters.length) = some 2 := by decide +kernel
theorem mX5_digestOfCells_w1 : Cond.constantLong RX5 251 (31) ∈ wsX5_digestOfCells := List.mem_of_getElem? (i := 1) rfl
def wl_Qm_digestOfCells_16 (mk : Nat → IA) (a3 : Int32) (x6_1 : Int32) (Kx_1 : Int32 → Int64 → IA → IA → IA → IA → Int32 → Prop) : Nat → Int32 → Int64 → IA → IA → IA → IA → Int32 → Prop
  | 0, _, _, _, _, _, _, _ => False
  | n + 1, x7_1, x4_2, dS_2, dL_2, dR_2, dF_2, dP_2 => (16 ≤ x7_1 → (Kx_1 x7_1 x4_2 dS_2 dL_2 dR_2 dF_2 dP_2)) ∧ (¬ 16 ≤ x7_1 → (wp_Qm_cell mk a3 x7_1 x6_1 (fun r_1 => ∀ x4_4 : Int64, x4_4 = ((31 * x4_2) + (Int32.toInt64 r_1)) → (wp_Qm_block mk a3 x7_1 x6_1 2 (fun r_2 => ∀ x4_5 : Int64, x4_5 = ((31 * x4_4) + (Int32.toInt64 r_2)) → (wp_Qm_label dS_2 dL_2 dR_2 dF_2 dP_2 mk a3 x7_1 x6_1 (fun r_3 m_dS_1 m_dL_1 m_dR_1 m_dF_1 m_dP_1 => ∀ x4_6 : Int64, x4_6 = ((31 * x4_5) + (Int32.toInt64 r_3)) → (wp_Qm_near mk a3 x7_1 x6_1 (fun r_4 => ∀ x4_7 : Int64, x4_7 = ((31 * x4_6) + (Int32.toInt64 r_4)) → ((wl_Qm_digestOfCells_16 mk a3 x6_1 Kx_1 n) (x7_1 + 5) x4_7 m_dS_1 m_dL_1 m_dR_1 m_dF_1 m_dP_1))))))))))
def wl_Qm_digestOfCells_6 (mk : Nat → IA) (a3 : Int32) (Q : Int64 → IA → IA → IA → IA → Int32 → Prop) : Nat → Int32 → Int64 → IA → IA → IA → IA → Int32 → Prop
  | 0, _, _, _, _, _, _, _ => False
  | n + 1, x6_1, x4_1, dS_1, dL_1, dR_1, dF_1, dP_1 => (16 ≤ x6_1 → (Q x4_1 dS_1 dL_1 dR_1 dF_1 dP_1)) ∧ (¬ 16 ≤ x6_1 → (∃ k_1 : Nat, wl_Qm_digestOfCells_16 mk a3 x6_1 (fun (x7_2 : Int32) (x4_3 : Int64) (dS_3 : IA) (dL_3 : IA) (dR_3 : IA) (dF_3 : IA) (dP_3 : Int32) => (wl_Qm_digestOfCells_6 mk a3 Q n) (x6_1 + 3) x4_3 dS_3 dL_3 dR_3 dF_3 dP_3) k_1 0 x4_1 dS_1 dL_1 dR_1 dF_1 dP_1))
def wp_Qm_digestOfCells (dS : IA) (dL : IA) (dR : IA) (dF : IA) (dP : Int32) (mk : Nat → IA) (a1 : Int64) (a3 : Int32) (Q : Int64 → IA → IA → IA → IA → Int32 → Prop) : Prop :=
  ∃ k_2 : Nat, wl_Qm_digestOfCells_6 mk a3 Q k_2 0 a1 dS dL dR dF dP
set_option maxHeartbeats 4000000 in
theorem c_Qm_digestOfCells (l : Launch) (G : GG) (ad : Nat → Nat) (lf : Int32) (chM : IA) (chR : IA) (chN : Int32) (chK : Int32) (md : IA) (sp : IA) (dS : IA) (dL : IA) (dR : IA) (dF : IA) (dP : Int32) (lS : IA) (lL : IA) (lR : IA) (lF : IA) (lP : Int32) (sS : IA) (sL : IA) (sT : Int32) (sD : Int32) (sM : Int32) (sX : Int32) (mk : Nat → IA) (si : Nat → IA) (sl : IA) (sf : IA) (ss : IA) (a1 : Int64) (a3 : Int32) {Q : Int64 → IA → IA → IA → IA → Int32 → Prop} (h : wp_Qm_digestOfCells dS dL dR dF dP mk a1 a3 Q) : qm_ML l yX5_digestOfCells wsX5_digestOfCells rmX5_digestOfCells G [.ref (ad 0), .long a1, .int a3] (cw G ad lf chM chR chN chK md sp dS dL dR dF dP lS lL lR lF lP sS sL sT sD sM sX mk si sl sf ss) (fun (r : Int64) (u : IA × IA × IA × IA × Int32) => Q r u.1 u.2.1 u.2.2.1 u.2.2.2.1 u.2.2.2.2) (fun (u : IA × IA × IA × IA × Int32) => cw G ad lf chM chR chN chK md sp u.1 u.2.1 u.2.2.1 u.2.2.2.1 u.2.2.2.2 lS lL lR lF lP sS sL sT sD sM sX mk si sl sf ss) := by
  refine qm_mkL (cc := cX5_digestOfCells) (maxL := 8) (by decide) rfl (Nat.le_of_ble_eq_true rfl) ?_
  intro X C hret
  replace C : qm_C G 8 X cX5_digestOfCells wsX5_digestOfCells RX5 := C
  refine v_lv (lv' := [(0, .ref (ad 0)), (1, .long a1), (3, .int a3)]) rfl ?_
  unfold wp_Qm_digestOfCells at h
  refine v_lload_n C dX5_digestOfCells_0 rfl 1 rfl ?_
  refine v_lstore C [(4, .long a1), (0, .ref (ad 0)), (1, .long a1), (3, .int a3)] dX5_digestOfCells_1 (by decide) rfl ?_
  refine v_iconst C 0 dX5_digestOfCells_3 (by decide) ?_
  refine v_istore C [(6, .int 0), (4, .long a1), (0, .ref (ad 0)), (1, .long a1), (3, .int a3)] dX5_digestOfCells_4 (by decide) rfl ?_
  have hl_2 : ∀ n_1 : Nat, ∀ (x6_1 : Int32) (x4_1 : Int64) (dS_1 : IA) (dL_1 : IA) (dR_1 : IA) (dF_1 : IA) (dP_1 : Int32), wl_Qm_digestOfCells_6 mk a3 Q n_1 x6_1 x4_1 dS_1 dL_1 dR_1 dF_1 dP_1 → qm_V l G rmX5_digestOfCells 8 X (cw G ad lf chM chR chN chK md sp dS_1 dL_1 dR_1 dF_1 dP_1 lS lL lR lF lP sS sL sT sD sM sX mk si sl sf ss) [(6, .int x6_1), (4, .long x4_1), (0, .ref (ad 0)), (1, .long a1), (3, .int a3)] 6 [] := by
    intro n_1
    induction n_1 with
    | zero =>
      intro x6_1 x4_1 dS_1 dL_1 dR_1 dF_1 dP_1 h
      exact False.elim h
    | succ n_1 ih_1 =>
      intro x6_1 x4_1 dS_1 dL_1 dR_1 dF_1 dP_1 h
      rw [wl_Qm_digestOfCells_6] at h
      refine v_iload C dX5_digestOfCells_6 0 rfl ?_
      refine v_bipush C 16 dX5_digestOfCells_8 (by decide) ?_
      refine v_icmp_ge C 112 dX5_digestOfCells_10 (by decide) (fun c_2 => ?_) (fun c_2 => ?_)
      · replace h := h.1 c_2
        refine v_lload C dX5_digestOfCells_112 1 rfl ?_
        exact hret _ _ _ x4_1 (dS_1, dL_1, dR_1, dF_1, dP_1) h rfl dX5_digestOfCells_114
      · replace h := h.2 c_2
        refine v_iconst C 0 dX5_digestOfCells_13 (by decide) ?_
        refine v_istore C [(7, .int 0), (6, .int x6_1), (4, .long x4_1), (0, .ref (ad 0)), (1, .long a1), (3, .int a3)] dX5_digestOfCells_14 (by decide) rfl ?_
        have hx_1 : ∀ (x7_2 : Int32) (x4_3 : Int64) (dS_3 : IA) (dL_3 : IA) (dR_3 : IA) (dF_3 : IA) (dP_3 : Int32), (fun (x7_2 : Int32) (x4_3 : Int64) (dS_3 : IA) (dL_3 : IA) (dR_3 : IA) (dF_3 : IA) (dP_3 : Int32) => (wl_Qm_digestOfCells_6 mk a3 Q n_1) (x6_1 + 3) x4_3 dS_3 dL_3 dR_3 dF_3 dP_3) x7_2 x4_3 dS_3 dL_3 dR_3 dF_3 dP_3 → qm_V l G rmX5_digestOfCells 8 X (cw G ad lf chM chR chN chK md sp dS_3 dL_3 dR_3 dF_3 dP_3 lS lL lR lF lP sS sL sT sD sM sX mk si sl sf ss) [(7, .int x7_2), (6, .int x6_1), (4, .long x4_3), (0, .ref (ad 0)), (1, .long a1), (3, .int a3)] 106 [] := by
          intro x7_2 x4_3 dS_3 dL_3 dR_3 dF_3 dP_3 h
          try dsimp only at h
          refine v_iinc C (x6_1 + 3) 1 [(6, .int (x6_1 + 3)), (7, .int x7_2), (4, .long x4_3), (0, .ref (ad 0)), (1, .long a1), (3, .int a3)] dX5_digestOfCells_106 rfl rfl (by decide) rfl ?_
          refine v_goto C 6 dX5_digestOfCells_109 (by decide) ?_
          refine v_perm [0, 2, 3, 4, 5] rfl ?_
          exact ih_1 (x6_1 + 3) x4_3 dS_3 dL_3 dR_3 dF_3 dP_3 h
        have hl_1 : ∀ n_2 : Nat, ∀ (x7_1 : Int32) (x4_2 : Int64) (dS_2 : IA) (dL_2 : IA) (dR_2 : IA) (dF_2 : IA) (dP_2 : Int32), wl_Qm_digestOfCells_16 mk a3 x6_1 (fun (x7_2 : Int32) (x4_3 : Int64) (dS_3 : IA) (dL_3 : IA) (dR_3 : IA) (dF_3 : IA) (dP_3 : Int32) => (wl_Qm_digestOfCells_6 mk a3 Q n_1) (x6_1 + 3) x4_3 dS_3 dL_3 dR_3 dF_3 dP_3) n_2 x7_1 x4_2 dS_2 dL_2 dR_2 dF_2 dP_2 → qm_V l G rmX5_digestOfCells 8 X (cw G ad lf chM chR chN chK md sp dS_2 dL_2 dR_2 dF_2 dP_2 lS lL lR lF lP sS sL sT sD sM sX mk si sl sf ss) [(7, .int x7_1), (6, .int x6_1), (4, .long x4_2), (0, .ref (ad 0)), (1, .long a1), (3, .int a3)] 16 [] := by
          intro n_2
          induction n_2 with
          | zero =>
            intro x7_1 x4_2 dS_2 dL_2 dR_2 dF_2 dP_2 h
            exact False.elim h
          | succ n_2 ih_2 =>
            intro x7_1 x4_2 dS_2 dL_2 dR_2 dF_2 dP_2 h
            rw [wl_Qm_digestOfCells_16] at h
            refine v_iload C dX5_digestOfCells_16 0 rfl ?_
            refine v_bipush C 16 dX5_digestOfCells_18 (by decide) ?_
            refine v_icmp_ge C 106 dX5_digestOfCells_20 (by decide) (fun c_1 => ?_) (fun c_1 => ?_)
            · replace h := h.1 c_1
              exact hx_1 x7_1 x4_2 dS_2 dL_2 dR_2 dF_2 dP_2 h
            · replace h := h.2 c_1
              refine v_ldc2 C 31 mX5_digestOfCells_w1 dX5_digestOfCells_23 ?_
              refine v_lload C dX5_digestOfCells_26 2 rfl ?_
              refine v_lmul C dX5_digestOfCells_28 ?_
              refine v_aload_n C dX5_digestOfCells_29 rfl 3 rfl ?_
              refine v_iload_n C dX5_digestOfCells_30 rfl 5 rfl ?_
              refine v_iload C dX5_digestOfCells_31 0 rfl ?_
              refine v_iload C dX5_digestOfCells_33 1 rfl ?_
              refine v_callVi C (c_Qm_cell l G ad lf chM chR chN chK md sp dS_2 dL_2 dR_2 dF_2 dP_2 lS lL lR lF lP sS sL sT sD sM sX mk si sl sf ss a3 x7_1 x6_1 h) 0 rfl rfl gX5_digestOfCells_X5_cell rfl kX5_cell ⟨rfl, rfl⟩ ⟨Nat.le_of_ble_eq_true rfl, Nat.le_of_ble_eq_true rfl⟩ rfl (Nat.le_of_ble_eq_true rfl) dX5_digestOfCells_35 (fun r_1 _ h => ?_)
              try dsimp only at h
              refine v_i2l C dX5_digestOfCells_38 ?_
              refine v_ladd C dX5_digestOfCells_39 ?_
              refine v_topl (fun x4_4 ex4_4 => ?_)
              replace h := h x4_4 ex4_4
              refine v_lstore C [(4, .long x4_4), (7, .int x7_1), (6, .int x6_1), (0, .ref (ad 0)), (1, .long a1), (3, .int a3)] dX5_digestOfCells_40 (by decide) rfl ?_
              refine v_ldc2 C 31 mX5_digestOfCells_w1 dX5_digestOfCells_42 ?_
              refine v_lload C dX5_digestOfCells_45 0 rfl ?_
              refine v_lmul C dX5_digestOfCells_47 ?_
              refine v_aload_n C dX5_digestOfCells_48 rfl 3 rfl ?_
              refine v_iload_n C dX5_digestOfCells_49 rfl 5 rfl ?_
              refine v_iload C dX5_digestOfCells_50 1 rfl ?_
              refine v_iload C dX5_digestOfCells_52 2 rfl ?_
              refine v_iconst C 2 dX5_digestOfCells_54 (by decide) ?_
              refine v_callVi C (c_Qm_block l G ad lf chM chR chN chK md sp dS_2 dL_2 dR_2 dF_2 dP_2 lS lL lR lF lP sS sL sT sD sM sX mk si sl sf ss a3 x7_1 x6_1 2 h) 0 rfl rfl gX5_digestOfCells_X5_block rfl kX5_block ⟨rfl, rfl⟩ ⟨Nat.le_of_ble_eq_true rfl, Nat.le_of_ble_eq_true rfl⟩ rfl (Nat.le_of_ble_eq_true rfl) dX5_digestOfCells_55 (fun r_2 _ h => ?_)
              try dsimp only at h
              refine v_i2l C dX5_digestOfCells_58 ?_
              refine v_ladd C dX5_digestOfCells_59 ?_
              refine v_topl (fun x4_5 ex4_5 => ?_)
              replace h := h x4_5 ex4_5
              refine v_lstore C [(4, .long x4_5), (7, .int x7_1), (6, .int x6_1), (0, .ref (ad 0)), (1, .long a1), (3, .int a3)] dX5_digestOfCells_60 (by decide) rfl ?_
              refine v_ldc2 C 31 mX5_digestOfCells_w1 dX5_digestOfCells_62 ?_
              refine v_lload C dX5_digestOfCells_65 0 rfl ?_
              refine v_lmul C dX5_digestOfCells_67 ?_
              refine v_aload_n C dX5_digestOfCells_68 rfl 3 rfl ?_
              refine v_iload_n C dX5_digestOfCells_69 rfl 5 rfl ?_
              refine v_iload C dX5_digestOfCells_70 1 rfl ?_
              refine v_iload C dX5_digestOfCells_72 2 rfl ?_
              refine v_callVi C (c_Qm_label l G ad lf chM chR chN chK md sp dS_2 dL_2 dR_2 dF_2 dP_2 lS lL lR lF lP sS sL sT sD sM sX mk si sl sf ss a3 x7_1 x6_1 h) 0 rfl rfl gX5_digestOfCells_X5_label rfl kX5_label ⟨rfl, rfl⟩ ⟨Nat.le_of_ble_eq_true rfl, Nat.le_of_ble_eq_true rfl⟩ rfl (Nat.le_of_ble_eq_true rfl) dX5_digestOfCells_74 (fun r_3 u h => ?_)
              obtain ⟨m_dS_1, m_dL_1, m_dR_1, m_dF_1, m_dP_1⟩ := u
              try dsimp only at h
              refine v_world (ws' := cw G ad lf chM chR chN chK md sp m_dS_1 m_dL_1 m_dR_1 m_dF_1 m_dP_1 lS lL lR lF lP sS sL sT sD sM sX mk si sl sf ss) rfl ?_
              refine v_i2l C dX5_digestOfCells_77 ?_
              refine v_ladd C dX5_digestOfCells_78 ?_
              refine v_topl (fun x4_6 ex4_6 => ?_)
              replace h := h x4_6 ex4_6
              refine v_lstore C [(4, .long x4_6), (7, .int x7_1), (6, .int x6_1), (0, .ref (ad 0)), (1, .long a1), (3, .int a3)] dX5_digestOfCells_79 (by decide) rfl ?_
              refine v_ldc2 C 31 mX5_digestOfCells_w1 dX5_digestOfCells_81 ?_
              refine v_lload C dX5_digestOfCells_84 0 rfl ?_
              refine v_lmul C dX5_digestOfCells_86 ?_
              refine v_aload_n C dX5_digestOfCells_87 rfl 3 rfl ?_
              refine v_iload_n C dX5_digestOfCells_88 rfl 5 rfl ?_
              refine v_iload C dX5_digestOfCells_89 1 rfl ?_
              refine v_iload C dX5_digestOfCells_91 2 rfl ?_
              refine v_callVi C (c_Qm_near l G ad lf chM chR chN chK md sp m_dS_1 m_dL_1 m_dR_1 m_dF_1 m_dP_1 lS lL lR lF lP sS sL sT sD sM sX mk si sl sf ss a3 x7_1 x6_1 h) 0 rfl rfl gX5_digestOfCells_X5_near rfl kX5_near ⟨rfl, rfl⟩ ⟨Nat.le_of_ble_eq_true rfl, Nat.le_of_ble_eq_true rfl⟩ rfl (Nat.le_of_ble_eq_true rfl) dX5_digestOfCells_93 (fun r_4 _ h => ?_)
              try dsimp only at h
              refine v_i2l C dX5_digestOfCells_96 ?_
              refine v_ladd C dX5_digestOfCells_97 ?_
              refine v_topl (fun x4_7 ex4_7 => ?_)
              replace h := h x4_7 ex4_7
              refine v_lstore C [(4, .long x4_7), (7, .int x7_1), (6, .int x6_1), (0, .ref (ad 0)), (1, .long a1), (3, .int a3)] dX5_digestOfCells_98 (by decide) rfl ?_
              refine v_iinc C (x7_1 + 5) 1 [(7, .int (x7_1 + 5)), (4, .long x4_7), (6, .int x6_1), (0, .ref (ad 0)), (1, .long a1), (3, .int a3)] dX5_digestOfCells_100 rfl rfl (by decide) rfl ?_
              refine v_goto C 16 dX5_digestOfCells_103 (by decide) ?_
              refine v_perm [0, 2, 1, 3, 4, 5] rfl ?_
              exact ih_2 (x7_1 + 5) x4_7 m_dS_1 m_dL_1 m_dR_1 m_dF_1 m_dP_1 h
        obtain ⟨k_1, h⟩ := h
        exact hl_1 k_1 0 x4_1 dS_1 dL_1 dR_1 dF_1 dP_1 h
  obtain ⟨k_2, h⟩ := h
  exact hl_2 k_2 0 a1 dS dL dR dF dP h
-- QuarterMasks.digestOfParts
def rmX5_digestOfParts : Room := { frames := 6, cells := 0, slots := 0, locals := 155 }
theorem kX5_digestOfParts : yX5_digestOfParts.cls = RX5 ∧ yX5_digestOfParts.cls ≠ "java/lang/invoke/MethodHandle" ∧ yX5_digestOfParts.cls ≠ "java/lang/invoke/VarHandle" ∧ (parseMethodDescriptor yX5_digestOfParts.desc).map (fun d => d.parameters.length) = some 2 := by decide +kernel
theorem mX5_digestOfParts_w1 : Cond.constantLong RX5 251 (31) ∈ wsX5_digestOfParts := List.mem_of_getElem? (i := 1) rfl
def wl_Qm_digestOfParts_15 (mk : Nat → IA) (a3 : Int32) (x6_1 : Int32) (Kx_1 : Int32 → Int64 → IA → IA → IA → IA → Int32 → Prop) : Nat → Int32 → Int64 → IA → IA → IA → IA → Int32 → Prop
  | 0, _, _, _, _, _, _, _ => False
  | n + 1, x7_1, x4_2, dS_2, dL_2, dR_2, dF_2, dP_2 => (6 ≤ x7_1 → (Kx_1 x7_1 x4_2 dS_2 dL_2 dR_2 dF_2 dP_2)) ∧ (¬ 6 ≤ x7_1 → (wp_Qm_part dS_2 dL_2 dR_2 dF_2 dP_2 mk a3 x6_1 x7_1 (fun r_1 m_dS_1 m_dL_1 m_dR_1 m_dF_1 m_dP_1 => ∀ x4_4 : Int64, x4_4 = ((31 * x4_2) + (Int32.toInt64 r_1)) → ((wl_Qm_digestOfParts_15 mk a3 x6_1 Kx_1 n) (x7_1 + 1) x4_4 m_dS_1 m_dL_1 m_dR_1 m_dF_1 m_dP_1))))
def wl_Qm_digestOfParts_6 (mk : Nat → IA) (a3 : Int32) (Q : Int64 → IA → IA → IA → IA → Int32 → Prop) : Nat → Int32 → Int64 → IA → IA → IA → IA → Int32 → Prop
  | 0, _, _, _, _, _, _, _ => False
  | n + 1, x6_1, x4_1, dS_1, dL_1, dR_1, dF_1, dP_1 => (3 < x6_1 → (Q x4_1 dS_1 dL_1 dR_1 dF_1 dP_1)) ∧ (¬ 3 < x6_1 → (∃ k_1 : Nat, wl_Qm_digestOfParts_15 mk a3 x6_1 (fun (x7_2 : Int32) (x4_3 : Int64) (dS_3 : IA) (dL_3 : IA) (dR_3 : IA) (dF_3 : IA) (dP_3 : Int32) => (wl_Qm_digestOfParts_6 mk a3 Q n) (x6_1 + 1) x4_3 dS_3 dL_3 dR_3 dF_3 dP_3) k_1 0 x4_1 dS_1 dL_1 dR_1 dF_1 dP_1))
def wp_Qm_digestOfParts (dS : IA) (dL : IA) (dR : IA) (dF : IA) (dP : Int32) (mk : Nat → IA) (a1 : Int64) (a3 : Int32) (Q : Int64 → IA → IA → IA → IA → Int32 → Prop) : Prop :=
  ∃ k_2 : Nat, wl_Qm_digestOfParts_6 mk a3 Q k_2 0 a1 dS dL dR dF dP
set_option maxHeartbeats 4000000 in
theorem c_Qm_digestOfParts (l : Launch) (G : GG) (ad : Nat → Nat) (lf : Int32) (chM : IA) (chR : IA) (chN : Int32) (chK : Int32) (md : IA) (sp : IA) (dS : IA) (dL : IA) (dR : IA) (dF : IA) (dP : Int32) (lS : IA) (lL : IA) (lR : IA) (lF : IA) (lP : Int32) (sS : IA) (sL : IA) (sT : Int32) (sD : Int32) (sM : Int32) (sX : Int32) (mk : Nat → IA) (si : Nat → IA) (sl : IA) (sf : IA) (ss : IA) (a1 : Int64) (a3 : Int32) {Q : Int64 → IA → IA → IA → IA → Int32 → Prop} (h : wp_Qm_digestOfParts dS dL dR dF dP mk a1 a3 Q) : qm_ML l yX5_digestOfParts wsX5_digestOfParts rmX5_digestOfParts G [.ref (ad 0), .long a1, .int a3] (cw G ad lf chM chR chN chK md sp dS dL dR dF dP lS lL lR lF lP sS sL sT sD sM sX mk si sl sf ss) (fun (r : Int64) (u : IA × IA × IA × IA × Int32) => Q r u.1 u.2.1 u.2.2.1 u.2.2.2.1 u.2.2.2.2) (fun (u : IA × IA × IA × IA × Int32) => cw G ad lf chM chR chN chK md sp u.1 u.2.1 u.2.2.1 u.2.2.2.1 u.2.2.2.2 lS lL lR lF lP sS sL sT sD sM sX mk si sl sf ss) := by
  refine qm_mkL (cc := cX5_digestOfParts) (maxL := 8) (by decide) rfl (Nat.le_of_ble_eq_true rfl) ?_
  intro X C hret
  replace C : qm_C G 8 X cX5_digestOfParts wsX5_digestOfParts RX5 := C
  refine v_lv (lv' := [(0, .ref (ad 0)), (1, .long a1), (3, .int a3)]) rfl ?_
  unfold wp_Qm_digestOfParts at h
  refine v_lload_n C dX5_digestOfParts_0 rfl 1 rfl ?_
  refine v_lstore C [(4, .long a1), (0, .ref (ad 0)), (1, .long a1), (3, .int a3)] dX5_digestOfParts_1 (by decide) rfl ?_
  refine v_iconst C 0 dX5_digestOfParts_3 (by decide) ?_
  refine v_istore C [(6, .int 0), (4, .long a1), (0, .ref (ad 0)), (1, .long a1), (3, .int a3)] dX5_digestOfParts_4 (by decide) rfl ?_
  have hl_2 : ∀ n_1 : Nat, ∀ (x6_1 : Int32) (x4_1 : Int64) (dS_1 : IA) (dL_1 : IA) (dR_1 : IA) (dF_1 : IA) (dP_1 : Int32), wl_Qm_digestOfParts_6 mk a3 Q n_1 x6_1 x4_1 dS_1 dL_1 dR_1 dF_1 dP_1 → qm_V l G rmX5_digestOfParts 8 X (cw G ad lf chM chR chN chK md sp dS_1 dL_1 dR_1 dF_1 dP_1 lS lL lR lF lP sS sL sT sD sM sX mk si sl sf ss) [(6, .int x6_1), (4, .long x4_1), (0, .ref (ad 0)), (1, .long a1), (3, .int a3)] 6 [] := by
    intro n_1
    induction n_1 with
    | zero =>
      intro x6_1 x4_1 dS_1 dL_1 dR_1 dF_1 dP_1 h
      exact False.elim h
    | succ n_1 ih_1 =>
      intro x6_1 x4_1 dS_1 dL_1 dR_1 dF_1 dP_1 h
      rw [wl_Qm_digestOfParts_6] at h
      refine v_iload C dX5_digestOfParts_6 0 rfl ?_
      refine v_iconst C 3 dX5_digestOfParts_8 (by decide) ?_
      refine v_icmp_gt C 53 dX5_digestOfParts_9 (by decide) (fun c_2 => ?_) (fun c_2 => ?_)
      · replace h := h.1 c_2
        refine v_lload C dX5_digestOfParts_53 1 rfl ?_
        exact hret _ _ _ x4_1 (dS_1, dL_1, dR_1, dF_1, dP_1) h rfl dX5_digestOfParts_55
      · replace h := h.2 c_2
        refine v_iconst C 0 dX5_digestOfParts_12 (by decide) ?_
        refine v_istore C [(7, .int 0), (6, .int x6_1), (4, .long x4_1), (0, .ref (ad 0)), (1, .long a1), (3, .int a3)] dX5_digestOfParts_13 (by decide) rfl ?_
        have hx_1 : ∀ (x7_2 : Int32) (x4_3 : Int64) (dS_3 : IA) (dL_3 : IA) (dR_3 : IA) (dF_3 : IA) (dP_3 : Int32), (fun (x7_2 : Int32) (x4_3 : Int64) (dS_3 : IA) (dL_3 : IA) (dR_3 : IA) (dF_3 : IA) (dP_3 : Int32) => (wl_Qm_digestOfParts_6 mk a3 Q n_1) (x6_1 + 1) x4_3 dS_3 dL_3 dR_3 dF_3 dP_3) x7_2 x4_3 dS_3 dL_3 dR_3 dF_3 dP_3 → qm_V l G rmX5_digestOfParts 8 X (cw G ad lf chM chR chN chK md sp dS_3 dL_3 dR_3 dF_3 dP_3 lS lL lR lF lP sS sL sT sD sM sX mk si sl sf ss) [(7, .int x7_2), (6, .int x6_1), (4, .long x4_3), (0, .ref (ad 0)), (1, .long a1), (3, .int a3)] 47 [] := by
          intro x7_2 x4_3 dS_3 dL_3 dR_3 dF_3 dP_3 h
          try dsimp only at h
          refine v_iinc C (x6_1 + 1) 1 [(6, .int (x6_1 + 1)), (7, .int x7_2), (4, .long x4_3), (0, .ref (ad 0)), (1, .long a1), (3, .int a3)] dX5_digestOfParts_47 rfl rfl (by decide) rfl ?_
          refine v_goto C 6 dX5_digestOfParts_50 (by decide) ?_
          refine v_perm [0, 2, 3, 4, 5] rfl ?_
          exact ih_1 (x6_1 + 1) x4_3 dS_3 dL_3 dR_3 dF_3 dP_3 h
        have hl_1 : ∀ n_2 : Nat, ∀ (x7_1 : Int32) (x4_2 : Int64) (dS_2 : IA) (dL_2 : IA) (dR_2 : IA) (dF_2 : IA) (dP_2 : Int32), wl_Qm_digestOfParts_15 mk a3 x6_1 (fun (x7_2 : Int32) (x4_3 : Int64) (dS_3 : IA) (dL_3 : IA) (dR_3 : IA) (dF_3 : IA) (dP_3 : Int32) => (wl_Qm_digestOfParts_6 mk a3 Q n_1) (x6_1 + 1) x4_3 dS_3 dL_3 dR_3 dF_3 dP_3) n_2 x7_1 x4_2 dS_2 dL_2 dR_2 dF_2 dP_2 → qm_V l G rmX5_digestOfParts 8 X (cw G ad lf chM chR chN chK md sp dS_2 dL_2 dR_2 dF_2 dP_2 lS lL lR lF lP sS sL sT sD sM sX mk si sl sf ss) [(7, .int x7_1), (6, .int x6_1), (4, .long x4_2), (0, .ref (ad 0)), (1, .long a1), (3, .int a3)] 15 [] := by
          intro n_2
          induction n_2 with
          | zero =>
            intro x7_1 x4_2 dS_2 dL_2 dR_2 dF_2 dP_2 h
            exact False.elim h
          | succ n_2 ih_2 =>
            intro x7_1 x4_2 dS_2 dL_2 dR_2 dF_2 dP_2 h
            rw [wl_Qm_digestOfParts_15] at h
            refine v_iload C dX5_digestOfParts_15 0 rfl ?_
            refine v_bipush C 6 dX5_digestOfParts_17 (by decide) ?_
            refine v_icmp_ge C 47 dX5_digestOfParts_19 (by decide) (fun c_1 => ?_) (fun c_1 => ?_)
            · replace h := h.1 c_1
              exact hx_1 x7_1 x4_2 dS_2 dL_2 dR_2 dF_2 dP_2 h
            · replace h := h.2 c_1
              refine v_ldc2 C 31 mX5_digestOfParts_w1 dX5_digestOfParts_22 ?_
              refine v_lload C dX5_digestOfParts_25 2 rfl ?_
              refine v_lmul C dX5_digestOfParts_27 ?_
              refine v_aload_n C dX5_digestOfParts_28 rfl 3 rfl ?_
              refine v_iload_n C dX5_digestOfParts_29 rfl 5 rfl ?_
              refine v_iload C dX5_digestOfParts_30 1 rfl ?_
              refine v_iload C dX5_digestOfParts_32 0 rfl ?_
              refine v_callVi C (c_Qm_part l G ad lf chM chR chN chK md sp dS_2 dL_2 dR_2 dF_2 dP_2 lS lL lR lF lP sS sL sT sD sM sX mk si sl sf ss a3 x6_1 x7_1 h) 0 rfl rfl gX5_digestOfParts_X5_part rfl kX5_part ⟨rfl, rfl⟩ ⟨Nat.le_of_ble_eq_true rfl, Nat.le_of_ble_eq_true rfl⟩ rfl (Nat.le_of_ble_eq_true rfl) dX5_digestOfParts_34 (fun r_1 u h => ?_)
              obtain ⟨m_dS_1, m_dL_1, m_dR_1, m_dF_1, m_dP_1⟩ := u
              try dsimp only at h
              refine v_world (ws' := cw G ad lf chM chR chN chK md sp m_dS_1 m_dL_1 m_dR_1 m_dF_1 m_dP_1 lS lL lR lF lP sS sL sT sD sM sX mk si sl sf ss) rfl ?_
              refine v_i2l C dX5_digestOfParts_37 ?_
              refine v_ladd C dX5_digestOfParts_38 ?_
              refine v_topl (fun x4_4 ex4_4 => ?_)
              replace h := h x4_4 ex4_4
              refine v_lstore C [(4, .long x4_4), (7, .int x7_1), (6, .int x6_1), (0, .ref (ad 0)), (1, .long a1), (3, .int a3)] dX5_digestOfParts_39 (by decide) rfl ?_
              refine v_iinc C (x7_1 + 1) 1 [(7, .int (x7_1 + 1)), (4, .long x4_4), (6, .int x6_1), (0, .ref (ad 0)), (1, .long a1), (3, .int a3)] dX5_digestOfParts_41 rfl rfl (by decide) rfl ?_
              refine v_goto C 15 dX5_digestOfParts_44 (by decide) ?_
              refine v_perm [0, 2, 1, 3, 4, 5] rfl ?_
              exact ih_2 (x7_1 + 1) x4_4 m_dS_1 m_dL_1 m_dR_1 m_dF_1 m_dP_1 h
        obtain ⟨k_1, h⟩ := h
        exact hl_1 k_1 0 x4_1 dS_1 dL_1 dR_1 dF_1 dP_1 h
  obtain ⟨k_2, h⟩ := h
  exact hl_2 k_2 0 a1 dS dL dR dF dP h
-- QuarterMasks.digestOfPairs
def rmX5_digestOfPairs : Room := { frames := 5, cells := 0, slots := 0, locals := 127 }
theorem kX5_digestOfPairs : yX5_digestOfPairs.cls = RX5 ∧ yX5_digestOfPairs.cls ≠ "java/lang/invoke/MethodHandle" ∧ yX5_digestOfPairs.cls ≠ "java/lang/invoke/VarHandle" ∧ (parseMethodDescriptor yX5_digestOfPairs.desc).map (fun d => d.parameters.length) = some 2 := by decide +kernel
theorem mX5_digestOfPairs_w1 : Cond.constantLong RX5 251 (31) ∈ wsX5_digestOfPairs := List.mem_of_getElem? (i := 1) rfl
def wl_Qm_digestOfPairs_15 (mk : Nat → IA) (a3 : Int32) (x6_1 : Int32) (Kx_1 : Int32 → Int64 → Prop) : Nat → Int32 → Int64 → Prop
  | 0, _, _ => False
  | n + 1, x7_1, x4_2 => (3 < x7_1 → (Kx_1 x7_1 x4_2)) ∧ (¬ 3 < x7_1 → (wp_Qm_both mk a3 x6_1 x7_1 (fun r_1 => ∀ x4_4 : Int64, x4_4 = ((31 * x4_2) + (Int32.toInt64 r_1)) → ((wl_Qm_digestOfPairs_15 mk a3 x6_1 Kx_1 n) (x7_1 + 1) x4_4))))
def wl_Qm_digestOfPairs_6 (mk : Nat → IA) (a3 : Int32) (Q : Int64 → Prop) : Nat → Int32 → Int64 → Prop
  | 0, _, _ => False
  | n + 1, x6_1, x4_1 => (4 ≤ x6_1 → (Q x4_1)) ∧ (¬ 4 ≤ x6_1 → (∃ k_1 : Nat, wl_Qm_digestOfPairs_15 mk a3 x6_1 (fun (x7_2 : Int32) (x4_3 : Int64) => (wl_Qm_digestOfPairs_6 mk a3 Q n) (x6_1 + 1) x4_3) k_1 0 x4_1))
def wp_Qm_digestOfPairs (mk : Nat → IA) (a1 : Int64) (a3 : Int32) (Q : Int64 → Prop) : Prop :=
  ∃ k_2 : Nat, wl_Qm_digestOfPairs_6 mk a3 Q k_2 0 a1
set_option maxHeartbeats 4000000 in
theorem c_Qm_digestOfPairs (l : Launch) (G : GG) (ad : Nat → Nat) (lf : Int32) (chM : IA) (chR : IA) (chN : Int32) (chK : Int32) (md : IA) (sp : IA) (dS : IA) (dL : IA) (dR : IA) (dF : IA) (dP : Int32) (lS : IA) (lL : IA) (lR : IA) (lF : IA) (lP : Int32) (sS : IA) (sL : IA) (sT : Int32) (sD : Int32) (sM : Int32) (sX : Int32) (mk : Nat → IA) (si : Nat → IA) (sl : IA) (sf : IA) (ss : IA) (a1 : Int64) (a3 : Int32) {Q : Int64 → Prop} (h : wp_Qm_digestOfPairs mk a1 a3 Q) : qm_ML l yX5_digestOfPairs wsX5_digestOfPairs rmX5_digestOfPairs G [.ref (ad 0), .long a1, .int a3] (cw G ad lf chM chR chN chK md sp dS dL dR dF dP lS lL lR lF lP sS sL sT sD sM sX mk si sl sf ss) (fun (r : Int64) (_ : Unit) => Q r) (fun (_ : Unit) => cw G ad lf chM chR chN chK md sp dS dL dR dF dP lS lL lR lF lP sS sL sT sD sM sX mk si sl sf ss) := by
  refine qm_mkL (cc := cX5_digestOfPairs) (maxL := 8) (by decide) rfl (Nat.le_of_ble_eq_true rfl) ?_
  intro X C hret
  replace C : qm_C G 8 X cX5_digestOfPairs wsX5_digestOfPairs RX5 := C
  refine v_lv (lv' := [(0, .ref (ad 0)), (1, .long a1), (3, .int a3)]) rfl ?_
  unfold wp_Qm_digestOfPairs at h
  refine v_lload_n C dX5_digestOfPairs_0 rfl 1 rfl ?_
  refine v_lstore C [(4, .long a1), (0, .ref (ad 0)), (1, .long a1), (3, .int a3)] dX5_digestOfPairs_1 (by decide) rfl ?_
  refine v_iconst C 0 dX5_digestOfPairs_3 (by decide) ?_
  refine v_istore C [(6, .int 0), (4, .long a1), (0, .ref (ad 0)), (1, .long a1), (3, .int a3)] dX5_digestOfPairs_4 (by decide) rfl ?_
  have hl_2 : ∀ n_1 : Nat, ∀ (x6_1 : Int32) (x4_1 : Int64), wl_Qm_digestOfPairs_6 mk a3 Q n_1 x6_1 x4_1 → qm_V l G rmX5_digestOfPairs 8 X (cw G ad lf chM chR chN chK md sp dS dL dR dF dP lS lL lR lF lP sS sL sT sD sM sX mk si sl sf ss) [(6, .int x6_1), (4, .long x4_1), (0, .ref (ad 0)), (1, .long a1), (3, .int a3)] 6 [] := by
    intro n_1
    induction n_1 with
    | zero =>
      intro x6_1 x4_1 h
      exact False.elim h
    | succ n_1 ih_1 =>
      intro x6_1 x4_1 h
      rw [wl_Qm_digestOfPairs_6] at h
      refine v_iload C dX5_digestOfPairs_6 0 rfl ?_
      refine v_iconst C 4 dX5_digestOfPairs_8 (by decide) ?_
      refine v_icmp_ge C 52 dX5_digestOfPairs_9 (by decide) (fun c_2 => ?_) (fun c_2 => ?_)
      · replace h := h.1 c_2
        refine v_lload C dX5_digestOfPairs_52 1 rfl ?_
        exact hret _ _ _ x4_1 () h rfl dX5_digestOfPairs_54
      · replace h := h.2 c_2
        refine v_iconst C 0 dX5_digestOfPairs_12 (by decide) ?_
        refine v_istore C [(7, .int 0), (6, .int x6_1), (4, .long x4_1), (0, .ref (ad 0)), (1, .long a1), (3, .int a3)] dX5_digestOfPairs_13 (by decide) rfl ?_
        have hx_1 : ∀ (x7_2 : Int32) (x4_3 : Int64), (fun (x7_2 : Int32) (x4_3 : Int64) => (wl_Qm_digestOfPairs_6 mk a3 Q n_1) (x6_1 + 1) x4_3) x7_2 x4_3 → qm_V l G rmX5_digestOfPairs 8 X (cw G ad lf chM chR chN chK md sp dS dL dR dF dP lS lL lR lF lP sS sL sT sD sM sX mk si sl sf ss) [(7, .int x7_2), (6, .int x6_1), (4, .long x4_3), (0, .ref (ad 0)), (1, .long a1), (3, .int a3)] 46 [] := by
          intro x7_2 x4_3 h
          try dsimp only at h
          refine v_iinc C (x6_1 + 1) 1 [(6, .int (x6_1 + 1)), (7, .int x7_2), (4, .long x4_3), (0, .ref (ad 0)), (1, .long a1), (3, .int a3)] dX5_digestOfPairs_46 rfl rfl (by decide) rfl ?_
          refine v_goto C 6 dX5_digestOfPairs_49 (by decide) ?_
          refine v_perm [0, 2, 3, 4, 5] rfl ?_
          exact ih_1 (x6_1 + 1) x4_3 h
        have hl_1 : ∀ n_2 : Nat, ∀ (x7_1 : Int32) (x4_2 : Int64), wl_Qm_digestOfPairs_15 mk a3 x6_1 (fun (x7_2 : Int32) (x4_3 : Int64) => (wl_Qm_digestOfPairs_6 mk a3 Q n_1) (x6_1 + 1) x4_3) n_2 x7_1 x4_2 → qm_V l G rmX5_digestOfPairs 8 X (cw G ad lf chM chR chN chK md sp dS dL dR dF dP lS lL lR lF lP sS sL sT sD sM sX mk si sl sf ss) [(7, .int x7_1), (6, .int x6_1), (4, .long x4_2), (0, .ref (ad 0)), (1, .long a1), (3, .int a3)] 15 [] := by
          intro n_2
          induction n_2 with
          | zero =>
            intro x7_1 x4_2 h
            exact False.elim h
          | succ n_2 ih_2 =>
            intro x7_1 x4_2 h
            rw [wl_Qm_digestOfPairs_15] at h
            refine v_iload C dX5_digestOfPairs_15 0 rfl ?_
            refine v_iconst C 3 dX5_digestOfPairs_17 (by decide) ?_
            refine v_icmp_gt C 46 dX5_digestOfPairs_18 (by decide) (fun c_1 => ?_) (fun c_1 => ?_)
            · replace h := h.1 c_1
              exact hx_1 x7_1 x4_2 h
            · replace h := h.2 c_1
              refine v_ldc2 C 31 mX5_digestOfPairs_w1 dX5_digestOfPairs_21 ?_
              refine v_lload C dX5_digestOfPairs_24 2 rfl ?_
              refine v_lmul C dX5_digestOfPairs_26 ?_
              refine v_aload_n C dX5_digestOfPairs_27 rfl 3 rfl ?_
              refine v_iload_n C dX5_digestOfPairs_28 rfl 5 rfl ?_
              refine v_iload C dX5_digestOfPairs_29 1 rfl ?_
              refine v_iload C dX5_digestOfPairs_31 0 rfl ?_
              refine v_callVi C (c_Qm_both l G ad lf chM chR chN chK md sp dS dL dR dF dP lS lL lR lF lP sS sL sT sD sM sX mk si sl sf ss a3 x6_1 x7_1 h) 0 rfl rfl gX5_digestOfPairs_X5_both rfl kX5_both ⟨rfl, rfl⟩ ⟨Nat.le_of_ble_eq_true rfl, Nat.le_of_ble_eq_true rfl⟩ rfl (Nat.le_of_ble_eq_true rfl) dX5_digestOfPairs_33 (fun r_1 _ h => ?_)
              try dsimp only at h
              refine v_i2l C dX5_digestOfPairs_36 ?_
              refine v_ladd C dX5_digestOfPairs_37 ?_
              refine v_topl (fun x4_4 ex4_4 => ?_)
              replace h := h x4_4 ex4_4
              refine v_lstore C [(4, .long x4_4), (7, .int x7_1), (6, .int x6_1), (0, .ref (ad 0)), (1, .long a1), (3, .int a3)] dX5_digestOfPairs_38 (by decide) rfl ?_
              refine v_iinc C (x7_1 + 1) 1 [(7, .int (x7_1 + 1)), (4, .long x4_4), (6, .int x6_1), (0, .ref (ad 0)), (1, .long a1), (3, .int a3)] dX5_digestOfPairs_40 rfl rfl (by decide) rfl ?_
              refine v_goto C 15 dX5_digestOfPairs_43 (by decide) ?_
              refine v_perm [0, 2, 1, 3, 4, 5] rfl ?_
              exact ih_2 (x7_1 + 1) x4_4 h
        obtain ⟨k_1, h⟩ := h
        exact hl_1 k_1 0 x4_1 h
  obtain ⟨k_2, h⟩ := h
  exact hl_2 k_2 0 a1 h
-- QuarterMasks.digest
def rmX5_digest : Room := { frames := 12, cells := 0, slots := 0, locals := 318 }
theorem kX5_digest : yX5_digest.cls = RX5 ∧ yX5_digest.cls ≠ "java/lang/invoke/MethodHandle" ∧ yX5_digest.cls ≠ "java/lang/invoke/VarHandle" ∧ (parseMethodDescriptor yX5_digest.desc).map (fun d => d.parameters.length) = some 0 := by decide +kernel
theorem mX5_digest_w1 : Cond.constantLong RX5 249 (17) ∈ wsX5_digest := List.mem_of_getElem? (i := 1) rfl
theorem mX5_digest_w2 : Cond.constantLong RX5 251 (31) ∈ wsX5_digest := List.mem_of_getElem? (i := 2) rfl
def wl_Qm_digest_33 (mk : Nat → IA) (Q : Int64 → IA → IA → IA → IA → IA → Int32 → IA → IA → IA → IA → Int32 → IA → IA → Int32 → Int32 → Int32 → Int32 → Prop) : Nat → Int32 → Int64 → IA → IA → IA → IA → IA → Int32 → IA → IA → IA → IA → Int32 → IA → IA → Int32 → Int32 → Int32 → Int32 → Prop
  | 0, _, _, _, _, _, _, _, _, _, _, _, _, _, _, _, _, _, _, _ => False
  | n + 1, x3_3, x1_3, sp_1, dS_3, dL_3, dR_3, dF_3, dP_3, lS_1, lL_1, lR_1, lF_1, lP_1, sS_3, sL_3, sT_3, sD_3, sM_3, sX_3 => (4 ≤ x3_3 → (Q x1_3 sp_1 dS_3 dL_3 dR_3 dF_3 dP_3 lS_1 lL_1 lR_1 lF_1 lP_1 sS_3 sL_3 sT_3 sD_3 sM_3 sX_3)) ∧ (¬ 4 ≤ x3_3 → (wp_Qm_digestOfBlocks sp_1 dS_3 dL_3 dR_3 dF_3 dP_3 lS_1 lL_1 lR_1 lF_1 lP_1 sS_3 sL_3 sT_3 sD_3 sM_3 sX_3 mk x1_3 x3_3 (fun r_1 m_sp_1 m_dS_1 m_dL_1 m_dR_1 m_dF_1 m_dP_1 m_lS_1 m_lL_1 m_lR_1 m_lF_1 m_lP_1 m_sS_1 m_sL_1 m_sT_1 m_sD_1 m_sM_1 m_sX_1 => wp_Qm_digestOfCells m_dS_1 m_dL_1 m_dR_1 m_dF_1 m_dP_1 mk r_1 x3_3 (fun r_2 m_dS_2 m_dL_2 m_dR_2 m_dF_2 m_dP_2 => wp_Qm_digestOfParts m_dS_2 m_dL_2 m_dR_2 m_dF_2 m_dP_2 mk r_2 x3_3 (fun r_3 m_dS_3 m_dL_3 m_dR_3 m_dF_3 m_dP_3 => wp_Qm_digestOfPairs mk r_3 x3_3 (fun r_4 => (wl_Qm_digest_33 mk Q n) (x3_3 + 1) r_4 m_sp_1 m_dS_3 m_dL_3 m_dR_3 m_dF_3 m_dP_3 m_lS_1 m_lL_1 m_lR_1 m_lF_1 m_lP_1 m_sS_1 m_sL_1 m_sT_1 m_sD_1 m_sM_1 m_sX_1))))))
def wx_Qm_digest_31 (sp : IA) (lS : IA) (lL : IA) (lR : IA) (lF : IA) (lP : Int32) (mk : Nat → IA) (Q : Int64 → IA → IA → IA → IA → IA → Int32 → IA → IA → IA → IA → Int32 → IA → IA → Int32 → Int32 → Int32 → Int32 → Prop) (x3_2 : Int32) (x1_2 : Int64) (dS_2 : IA) (dL_2 : IA) (dR_2 : IA) (dF_2 : IA) (dP_2 : Int32) (sS_2 : IA) (sL_2 : IA) (sT_2 : Int32) (sD_2 : Int32) (sM_2 : Int32) (sX_2 : Int32) : Prop :=
  ∃ k_1 : Nat, wl_Qm_digest_33 mk Q k_1 0 x1_2 sp dS_2 dL_2 dR_2 dF_2 dP_2 lS lL lR lF lP sS_2 sL_2 sT_2 sD_2 sM_2 sX_2
def wl_Qm_digest_6 (lf : Int32) (chK : Int32) (mk : Nat → IA) (Kx_1 : Int32 → Int64 → IA → IA → IA → IA → Int32 → IA → IA → Int32 → Int32 → Int32 → Int32 → Prop) : Nat → Int32 → Int64 → IA → IA → IA → IA → Int32 → IA → IA → Int32 → Int32 → Int32 → Int32 → Prop
  | 0, _, _, _, _, _, _, _, _, _, _, _, _, _ => False
  | n + 1, x3_1, x1_1, dS_1, dL_1, dR_1, dF_1, dP_1, sS_1, sL_1, sT_1, sD_1, sM_1, sX_1 => (7 < x3_1 → (Kx_1 x3_1 x1_1 dS_1 dL_1 dR_1 dF_1 dP_1 sS_1 sL_1 sT_1 sD_1 sM_1 sX_1)) ∧ (¬ 7 < x3_1 → (wp_Qm_count lf chK dS_1 dL_1 dR_1 dF_1 dP_1 sS_1 sL_1 sT_1 sD_1 sM_1 sX_1 mk x3_1 (fun r_5 m_dS_4 m_dL_4 m_dR_4 m_dF_4 m_dP_4 m_sS_2 m_sL_2 m_sT_2 m_sD_2 m_sM_2 m_sX_2 => ∀ x1_4 : Int64, x1_4 = ((31 * x1_1) + (Int32.toInt64 r_5)) → ((wl_Qm_digest_6 lf chK mk Kx_1 n) (x3_1 + 1) x1_4 m_dS_4 m_dL_4 m_dR_4 m_dF_4 m_dP_4 m_sS_2 m_sL_2 m_sT_2 m_sD_2 m_sM_2 m_sX_2))))
def wp_Qm_digest (lf : Int32) (chK : Int32) (sp : IA) (dS : IA) (dL : IA) (dR : IA) (dF : IA) (dP : Int32) (lS : IA) (lL : IA) (lR : IA) (lF : IA) (lP : Int32) (sS : IA) (sL : IA) (sT : Int32) (sD : Int32) (sM : Int32) (sX : Int32) (mk : Nat → IA)  (Q : Int64 → IA → IA → IA → IA → IA → Int32 → IA → IA → IA → IA → Int32 → IA → IA → Int32 → Int32 → Int32 → Int32 → Prop) : Prop :=
  ∃ k_2 : Nat, wl_Qm_digest_6 lf chK mk (wx_Qm_digest_31 sp lS lL lR lF lP mk Q) k_2 0 17 dS dL dR dF dP sS sL sT sD sM sX
set_option maxHeartbeats 4000000 in
theorem c_Qm_digest (l : Launch) (G : GG) (ad : Nat → Nat) (lf : Int32) (chM : IA) (chR : IA) (chN : Int32) (chK : Int32) (md : IA) (sp : IA) (dS : IA) (dL : IA) (dR : IA) (dF : IA) (dP : Int32) (lS : IA) (lL : IA) (lR : IA) (lF : IA) (lP : Int32) (sS : IA) (sL : IA) (sT : Int32) (sD : Int32) (sM : Int32) (sX : Int32) (mk : Nat → IA) (si : Nat → IA) (sl : IA) (sf : IA) (ss : IA)  {Q : Int64 → IA → IA → IA → IA → IA → Int32 → IA → IA → IA → IA → Int32 → IA → IA → Int32 → Int32 → Int32 → Int32 → Prop} (h : wp_Qm_digest lf chK sp dS dL dR dF dP lS lL lR lF lP sS sL sT sD sM sX mk Q) : qm_ML l yX5_digest wsX5_digest rmX5_digest G [.ref (ad 0)] (cw G ad lf chM chR chN chK md sp dS dL dR dF dP lS lL lR lF lP sS sL sT sD sM sX mk si sl sf ss) (fun (r : Int64) (u : IA × IA × IA × IA × IA × Int32 × IA × IA × IA × IA × Int32 × IA × IA × Int32 × Int32 × Int32 × Int32) => Q r u.1 u.2.1 u.2.2.1 u.2.2.2.1 u.2.2.2.2.1 u.2.2.2.2.2.1 u.2.2.2.2.2.2.1 u.2.2.2.2.2.2.2.1 u.2.2.2.2.2.2.2.2.1 u.2.2.2.2.2.2.2.2.2.1 u.2.2.2.2.2.2.2.2.2.2.1 u.2.2.2.2.2.2.2.2.2.2.2.1 u.2.2.2.2.2.2.2.2.2.2.2.2.1 u.2.2.2.2.2.2.2.2.2.2.2.2.2.1 u.2.2.2.2.2.2.2.2.2.2.2.2.2.2.1 u.2.2.2.2.2.2.2.2.2.2.2.2.2.2.2.1 u.2.2.2.2.2.2.2.2.2.2.2.2.2.2.2.2) (fun (u : IA × IA × IA × IA × IA × Int32 × IA × IA × IA × IA × Int32 × IA × IA × Int32 × Int32 × Int32 × Int32) => cw G ad lf chM chR chN chK md u.1 u.2.1 u.2.2.1 u.2.2.2.1 u.2.2.2.2.1 u.2.2.2.2.2.1 u.2.2.2.2.2.2.1 u.2.2.2.2.2.2.2.1 u.2.2.2.2.2.2.2.2.1 u.2.2.2.2.2.2.2.2.2.1 u.2.2.2.2.2.2.2.2.2.2.1 u.2.2.2.2.2.2.2.2.2.2.2.1 u.2.2.2.2.2.2.2.2.2.2.2.2.1 u.2.2.2.2.2.2.2.2.2.2.2.2.2.1 u.2.2.2.2.2.2.2.2.2.2.2.2.2.2.1 u.2.2.2.2.2.2.2.2.2.2.2.2.2.2.2.1 u.2.2.2.2.2.2.2.2.2.2.2.2.2.2.2.2 mk si sl sf ss) := by
  refine qm_mkL (cc := cX5_digest) (maxL := 4) (by decide) rfl (Nat.le_of_ble_eq_true rfl) ?_
  intro X C hret
  replace C : qm_C G 4 X cX5_digest wsX5_digest RX5 := C
  refine v_lv (lv' := [(0, .ref (ad 0))]) rfl ?_
  unfold wp_Qm_digest at h
  refine v_ldc2 C 17 mX5_digest_w1 dX5_digest_0 ?_
  refine v_lstore_n C [(1, .long 17), (0, .ref (ad 0))] dX5_digest_3 rfl (by decide) rfl ?_
  refine v_iconst C 0 dX5_digest_4 (by decide) ?_
  refine v_istore_n C [(3, .int 0), (1, .long 17), (0, .ref (ad 0))] dX5_digest_5 rfl (by decide) rfl ?_
  have hx_1 : ∀ (x3_2 : Int32) (x1_2 : Int64) (dS_2 : IA) (dL_2 : IA) (dR_2 : IA) (dF_2 : IA) (dP_2 : Int32) (sS_2 : IA) (sL_2 : IA) (sT_2 : Int32) (sD_2 : Int32) (sM_2 : Int32) (sX_2 : Int32), (wx_Qm_digest_31 sp lS lL lR lF lP mk Q) x3_2 x1_2 dS_2 dL_2 dR_2 dF_2 dP_2 sS_2 sL_2 sT_2 sD_2 sM_2 sX_2 → qm_V l G rmX5_digest 4 X (cw G ad lf chM chR chN chK md sp dS_2 dL_2 dR_2 dF_2 dP_2 lS lL lR lF lP sS_2 sL_2 sT_2 sD_2 sM_2 sX_2 mk si sl sf ss) [(3, .int x3_2), (1, .long x1_2), (0, .ref (ad 0))] 31 [] := by
    intro x3_2 x1_2 dS_2 dL_2 dR_2 dF_2 dP_2 sS_2 sL_2 sT_2 sD_2 sM_2 sX_2 h
    unfold wx_Qm_digest_31 at h
    refine v_iconst C 0 dX5_digest_31 (by decide) ?_
    refine v_istore_n C [(3, .int 0), (1, .long x1_2), (0, .ref (ad 0))] dX5_digest_32 rfl (by decide) rfl ?_
    have hl_1 : ∀ n_1 : Nat, ∀ (x3_3 : Int32) (x1_3 : Int64) (sp_1 : IA) (dS_3 : IA) (dL_3 : IA) (dR_3 : IA) (dF_3 : IA) (dP_3 : Int32) (lS_1 : IA) (lL_1 : IA) (lR_1 : IA) (lF_1 : IA) (lP_1 : Int32) (sS_3 : IA) (sL_3 : IA) (sT_3 : Int32) (sD_3 : Int32) (sM_3 : Int32) (sX_3 : Int32), wl_Qm_digest_33 mk Q n_1 x3_3 x1_3 sp_1 dS_3 dL_3 dR_3 dF_3 dP_3 lS_1 lL_1 lR_1 lF_1 lP_1 sS_3 sL_3 sT_3 sD_3 sM_3 sX_3 → qm_V l G rmX5_digest 4 X (cw G ad lf chM chR chN chK md sp_1 dS_3 dL_3 dR_3 dF_3 dP_3 lS_1 lL_1 lR_1 lF_1 lP_1 sS_3 sL_3 sT_3 sD_3 sM_3 sX_3 mk si sl sf ss) [(3, .int x3_3), (1, .long x1_3), (0, .ref (ad 0))] 33 [] := by
      intro n_1
      induction n_1 with
      | zero =>
        intro x3_3 x1_3 sp_1 dS_3 dL_3 dR_3 dF_3 dP_3 lS_1 lL_1 lR_1 lF_1 lP_1 sS_3 sL_3 sT_3 sD_3 sM_3 sX_3 h
        exact False.elim h
      | succ n_1 ih_1 =>
        intro x3_3 x1_3 sp_1 dS_3 dL_3 dR_3 dF_3 dP_3 lS_1 lL_1 lR_1 lF_1 lP_1 sS_3 sL_3 sT_3 sD_3 sM_3 sX_3 h
        rw [wl_Qm_digest_33] at h
        refine v_iload_n C dX5_digest_33 rfl 0 rfl ?_
        refine v_iconst C 4 dX5_digest_34 (by decide) ?_
        refine v_icmp_ge C 72 dX5_digest_35 (by decide) (fun c_1 => ?_) (fun c_1 => ?_)
        · replace h := h.1 c_1
          refine v_lload_n C dX5_digest_72 rfl 1 rfl ?_
          exact hret _ _ _ x1_3 (sp_1, dS_3, dL_3, dR_3, dF_3, dP_3, lS_1, lL_1, lR_1, lF_1, lP_1, sS_3, sL_3, sT_3, sD_3, sM_3, sX_3) h rfl dX5_digest_73
        · replace h := h.2 c_1
          refine v_aload_n C dX5_digest_38 rfl 2 rfl ?_
          refine v_lload_n C dX5_digest_39 rfl 1 rfl ?_
          refine v_iload_n C dX5_digest_40 rfl 0 rfl ?_
          refine v_callVl C (c_Qm_digestOfBlocks l G ad lf chM chR chN chK md sp_1 dS_3 dL_3 dR_3 dF_3 dP_3 lS_1 lL_1 lR_1 lF_1 lP_1 sS_3 sL_3 sT_3 sD_3 sM_3 sX_3 mk si sl sf ss x1_3 x3_3 h) 0 rfl rfl gX5_digest_X5_digestOfBlocks rfl kX5_digestOfBlocks ⟨rfl, rfl⟩ ⟨Nat.le_of_ble_eq_true rfl, Nat.le_of_ble_eq_true rfl⟩ rfl (Nat.le_of_ble_eq_true rfl) dX5_digest_41 (fun r_1 u h => ?_)
          obtain ⟨m_sp_1, m_dS_1, m_dL_1, m_dR_1, m_dF_1, m_dP_1, m_lS_1, m_lL_1, m_lR_1, m_lF_1, m_lP_1, m_sS_1, m_sL_1, m_sT_1, m_sD_1, m_sM_1, m_sX_1⟩ := u
          try dsimp only at h
          refine v_world (ws' := cw G ad lf chM chR chN chK md m_sp_1 m_dS_1 m_dL_1 m_dR_1 m_dF_1 m_dP_1 m_lS_1 m_lL_1 m_lR_1 m_lF_1 m_lP_1 m_sS_1 m_sL_1 m_sT_1 m_sD_1 m_sM_1 m_sX_1 mk si sl sf ss) rfl ?_
          refine v_lstore_n C [(1, .long r_1), (3, .int x3_3), (0, .ref (ad 0))] dX5_digest_44 rfl (by decide) rfl ?_
          refine v_aload_n C dX5_digest_45 rfl 2 rfl ?_
          refine v_lload_n C dX5_digest_46 rfl 0 rfl ?_
          refine v_iload_n C dX5_digest_47 rfl 1 rfl ?_
          refine v_callVl C (c_Qm_digestOfCells l G ad lf chM chR chN chK md m_sp_1 m_dS_1 m_dL_1 m_dR_1 m_dF_1 m_dP_1 m_lS_1 m_lL_1 m_lR_1 m_lF_1 m_lP_1 m_sS_1 m_sL_1 m_sT_1 m_sD_1 m_sM_1 m_sX_1 mk si sl sf ss r_1 x3_3 h) 0 rfl rfl gX5_digest_X5_digestOfCells rfl kX5_digestOfCells ⟨rfl, rfl⟩ ⟨Nat.le_of_ble_eq_true rfl, Nat.le_of_ble_eq_true rfl⟩ rfl (Nat.le_of_ble_eq_true rfl) dX5_digest_48 (fun r_2 u h => ?_)
          obtain ⟨m_dS_2, m_dL_2, m_dR_2, m_dF_2, m_dP_2⟩ := u
          try dsimp only at h
          refine v_world (ws' := cw G ad lf chM chR chN chK md m_sp_1 m_dS_2 m_dL_2 m_dR_2 m_dF_2 m_dP_2 m_lS_1 m_lL_1 m_lR_1 m_lF_1 m_lP_1 m_sS_1 m_sL_1 m_sT_1 m_sD_1 m_sM_1 m_sX_1 mk si sl sf ss) rfl ?_
          refine v_lstore_n C [(1, .long r_2), (3, .int x3_3), (0, .ref (ad 0))] dX5_digest_51 rfl (by decide) rfl ?_
          refine v_aload_n C dX5_digest_52 rfl 2 rfl ?_
          refine v_lload_n C dX5_digest_53 rfl 0 rfl ?_
          refine v_iload_n C dX5_digest_54 rfl 1 rfl ?_
          refine v_callVl C (c_Qm_digestOfParts l G ad lf chM chR chN chK md m_sp_1 m_dS_2 m_dL_2 m_dR_2 m_dF_2 m_dP_2 m_lS_1 m_lL_1 m_lR_1 m_lF_1 m_lP_1 m_sS_1 m_sL_1 m_sT_1 m_sD_1 m_sM_1 m_sX_1 mk si sl sf ss r_2 x3_3 h) 0 rfl rfl gX5_digest_X5_digestOfParts rfl kX5_digestOfParts ⟨rfl, rfl⟩ ⟨Nat.le_of_ble_eq_true rfl, Nat.le_of_ble_eq_true rfl⟩ rfl (Nat.le_of_ble_eq_true rfl) dX5_digest_55 (fun r_3 u h => ?_)
          obtain ⟨m_dS_3, m_dL_3, m_dR_3, m_dF_3, m_dP_3⟩ := u
          try dsimp only at h
          refine v_world (ws' := cw G ad lf chM chR chN chK md m_sp_1 m_dS_3 m_dL_3 m_dR_3 m_dF_3 m_dP_3 m_lS_1 m_lL_1 m_lR_1 m_lF_1 m_lP_1 m_sS_1 m_sL_1 m_sT_1 m_sD_1 m_sM_1 m_sX_1 mk si sl sf ss) rfl ?_
          refine v_lstore_n C [(1, .long r_3), (3, .int x3_3), (0, .ref (ad 0))] dX5_digest_58 rfl (by decide) rfl ?_
          refine v_aload_n C dX5_digest_59 rfl 2 rfl ?_
          refine v_lload_n C dX5_digest_60 rfl 0 rfl ?_
          refine v_iload_n C dX5_digest_61 rfl 1 rfl ?_
          refine v_callVl C (c_Qm_digestOfPairs l G ad lf chM chR chN chK md m_sp_1 m_dS_3 m_dL_3 m_dR_3 m_dF_3 m_dP_3 m_lS_1 m_lL_1 m_lR_1 m_lF_1 m_lP_1 m_sS_1 m_sL_1 m_sT_1 m_sD_1 m_sM_1 m_sX_1 mk si sl sf ss r_3 x3_3 h) 0 rfl rfl gX5_digest_X5_digestOfPairs rfl kX5_digestOfPairs ⟨rfl, rfl⟩ ⟨Nat.le_of_ble_eq_true rfl, Nat.le_of_ble_eq_true rfl⟩ rfl (Nat.le_of_ble_eq_true rfl) dX5_digest_62 (fun r_4 _ h => ?_)
          try dsimp only at h
          refine v_lstore_n C [(1, .long r_4), (3, .int x3_3), (0, .ref (ad 0))] dX5_digest_65 rfl (by decide) rfl ?_
          refine v_iinc C (x3_3 + 1) 1 [(3, .int (x3_3 + 1)), (1, .long r_4), (0, .ref (ad 0))] dX5_digest_66 rfl rfl (by decide) rfl ?_
          refine v_goto C 33 dX5_digest_69 (by decide) ?_
          exact ih_1 (x3_3 + 1) r_4 m_sp_1 m_dS_3 m_dL_3 m_dR_3 m_dF_3 m_dP_3 m_lS_1 m_lL_1 m_lR_1 m_lF_1 m_lP_1 m_sS_1 m_sL_1 m_sT_1 m_sD_1 m_sM_1 m_sX_1 h
    obtain ⟨k_1, h⟩ := h
    exact hl_1 k_1 0 x1_2 sp dS_2 dL_2 dR_2 dF_2 dP_2 lS lL lR lF lP sS_2 sL_2 sT_2 sD_2 sM_2 sX_2 h
  have hl_2 : ∀ n_2 : Nat, ∀ (x3_1 : Int32) (x1_1 : Int64) (dS_1 : IA) (dL_1 : IA) (dR_1 : IA) (dF_1 : IA) (dP_1 : Int32) (sS_1 : IA) (sL_1 : IA) (sT_1 : Int32) (sD_1 : Int32) (sM_1 : Int32) (sX_1 : Int32), wl_Qm_digest_6 lf chK mk (wx_Qm_digest_31 sp lS lL lR lF lP mk Q) n_2 x3_1 x1_1 dS_1 dL_1 dR_1 dF_1 dP_1 sS_1 sL_1 sT_1 sD_1 sM_1 sX_1 → qm_V l G rmX5_digest 4 X (cw G ad lf chM chR chN chK md sp dS_1 dL_1 dR_1 dF_1 dP_1 lS lL lR lF lP sS_1 sL_1 sT_1 sD_1 sM_1 sX_1 mk si sl sf ss) [(3, .int x3_1), (1, .long x1_1), (0, .ref (ad 0))] 6 [] := by
    intro n_2
    induction n_2 with
    | zero =>
      intro x3_1 x1_1 dS_1 dL_1 dR_1 dF_1 dP_1 sS_1 sL_1 sT_1 sD_1 sM_1 sX_1 h
      exact False.elim h
    | succ n_2 ih_2 =>
      intro x3_1 x1_1 dS_1 dL_1 dR_1 dF_1 dP_1 sS_1 sL_1 sT_1 sD_1 sM_1 sX_1 h
      rw [wl_Qm_digest_6] at h
      refine v_iload_n C dX5_digest_6 rfl 0 rfl ?_
      refine v_bipush C 7 dX5_digest_7 (by decide) ?_
      refine v_icmp_gt C 31 dX5_digest_9 (by decide) (fun c_2 => ?_) (fun c_2 => ?_)
      · replace h := h.1 c_2
        exact hx_1 x3_1 x1_1 dS_1 dL_1 dR_1 dF_1 dP_1 sS_1 sL_1 sT_1 sD_1 sM_1 sX_1 h
      · replace h := h.2 c_2
        refine v_ldc2 C 31 mX5_digest_w2 dX5_digest_12 ?_
        refine v_lload_n C dX5_digest_15 rfl 1 rfl ?_
        refine v_lmul C dX5_digest_16 ?_
        refine v_aload_n C dX5_digest_17 rfl 2 rfl ?_
        refine v_iload_n C dX5_digest_18 rfl 0 rfl ?_
        refine v_callVi C (c_Qm_count l G ad lf chM chR chN chK md sp dS_1 dL_1 dR_1 dF_1 dP_1 lS lL lR lF lP sS_1 sL_1 sT_1 sD_1 sM_1 sX_1 mk si sl sf ss x3_1 h) 0 rfl rfl gX5_digest_X5_count rfl kX5_count ⟨rfl, rfl⟩ ⟨Nat.le_of_ble_eq_true rfl, Nat.le_of_ble_eq_true rfl⟩ rfl (Nat.le_of_ble_eq_true rfl) dX5_digest_19 (fun r_5 u h => ?_)
        obtain ⟨m_dS_4, m_dL_4, m_dR_4, m_dF_4, m_dP_4, m_sS_2, m_sL_2, m_sT_2, m_sD_2, m_sM_2, m_sX_2⟩ := u
        try dsimp only at h
        refine v_world (ws' := cw G ad lf chM chR chN chK md sp m_dS_4 m_dL_4 m_dR_4 m_dF_4 m_dP_4 lS lL lR lF lP m_sS_2 m_sL_2 m_sT_2 m_sD_2 m_sM_2 m_sX_2 mk si sl sf ss) rfl ?_
        refine v_i2l C dX5_digest_22 ?_
        refine v_ladd C dX5_digest_23 ?_
        refine v_topl (fun x1_4 ex1_4 => ?_)
        replace h := h x1_4 ex1_4
        refine v_lstore_n C [(1, .long x1_4), (3, .int x3_1), (0, .ref (ad 0))] dX5_digest_24 rfl (by decide) rfl ?_
        refine v_iinc C (x3_1 + 1) 1 [(3, .int (x3_1 + 1)), (1, .long x1_4), (0, .ref (ad 0))] dX5_digest_25 rfl rfl (by decide) rfl ?_
        refine v_goto C 6 dX5_digest_28 (by decide) ?_
        exact ih_2 (x3_1 + 1) x1_4 m_dS_4 m_dL_4 m_dR_4 m_dF_4 m_dP_4 m_sS_2 m_sL_2 m_sT_2 m_sD_2 m_sM_2 m_sX_2 h
  obtain ⟨k_2, h⟩ := h
  exact hl_2 k_2 0 17 dS dL dR dF dP sS sL sT sD sM sX h
