/-! Parts, signs, sheets, changes. Printed by wip/whole/gen/mkall.py. -/
-- QuarterMasks$Parts.labelAt
def rmX2_labelAt : Room := { frames := 1, cells := 0, slots := 0, locals := 40 }
theorem kX2_labelAt : yX2_labelAt.cls = RX2 ∧ yX2_labelAt.cls ≠ "java/lang/invoke/MethodHandle" ∧ yX2_labelAt.cls ≠ "java/lang/invoke/VarHandle" ∧ (parseMethodDescriptor yX2_labelAt.desc).map (fun d => d.parameters.length) = some 2 := by decide +kernel
theorem mX2_labelAt_w1 : Cond.fieldLink RX2 18 "QuarterMasks$Parts" "labels" "[I" ∈ wsX2_labelAt := List.mem_of_getElem? (i := 1) rfl
theorem iX2_labelAt_2 : ∀ w ∈ wsX20, w ∈ wsX2_labelAt := fun w h => List.mem_cons_of_mem _ (List.mem_append_right _ h)
def wp_Pa_labelAt (t_labels : IA) (a1 : Int32) (a2 : Int32) (Q : Int32 → Prop) : Prop :=
  (a1 < 0 → (Q (-1))) ∧ (¬ a1 < 0 → ((16 ≤ a1 → (Q (-1))) ∧ (¬ 16 ≤ a1 → ((a2 < 0 → (Q (-1))) ∧ (¬ a2 < 0 → ((16 ≤ a2 → (Q (-1))) ∧ (¬ 16 ≤ a2 → (vp_in ((a2 * 16) + a1) 256 ∧ (Q (t_labels ((a2 * 16) + a1).toNatClampNeg))))))))))
set_option maxHeartbeats 4000000 in
theorem c_Pa_labelAt (l : Launch) (G : GG) (ad : Nat → Nat) (ws : va_W) (tb : Nat) {t_seen : IA} {t_labels : IA} {t_reached : IA} {t_figures : IA} {t_parts : Int32} (hT : pR G ad ws tb t_seen t_labels t_reached t_figures t_parts)  (a1 : Int32) (a2 : Int32) {Q : Int32 → Prop} (h : wp_Pa_labelAt t_labels a1 a2 Q) : qm_MI l yX2_labelAt wsX2_labelAt rmX2_labelAt G [.ref (ad tb), .int a1, .int a2] (ws) (fun (r : Int32) (_ : Unit) => Q r) (fun (_ : Unit) => ws) := by
  refine qm_mkI (cc := cX2_labelAt) (maxL := 3) (by decide) rfl (Nat.le_of_ble_eq_true rfl) ?_
  intro X C hret
  replace C : qm_C G 3 X cX2_labelAt wsX2_labelAt RX2 := C
  refine v_lv (lv' := [(0, .ref (ad tb)), (1, .int a1), (2, .int a2)]) rfl ?_
  unfold wp_Pa_labelAt at h
  refine v_iload_n C dX2_labelAt_0 rfl 1 rfl ?_
  refine v_if_lt C 34 dX2_labelAt_1 (by decide) (fun c_4 => ?_) (fun c_4 => ?_)
  · replace h := h.1 c_4
    refine v_iconst C (-1) dX2_labelAt_34 (by decide) ?_
    exact hret _ _ _ (-1) () h rfl dX2_labelAt_35
  · replace h := h.2 c_4
    refine v_iload_n C dX2_labelAt_4 rfl 1 rfl ?_
    refine v_bipush C 16 dX2_labelAt_5 (by decide) ?_
    refine v_icmp_ge C 34 dX2_labelAt_7 (by decide) (fun c_3 => ?_) (fun c_3 => ?_)
    · replace h := h.1 c_3
      refine v_iconst C (-1) dX2_labelAt_34 (by decide) ?_
      exact hret _ _ _ (-1) () h rfl dX2_labelAt_35
    · replace h := h.2 c_3
      refine v_iload_n C dX2_labelAt_10 rfl 2 rfl ?_
      refine v_if_lt C 34 dX2_labelAt_11 (by decide) (fun c_2 => ?_) (fun c_2 => ?_)
      · replace h := h.1 c_2
        refine v_iconst C (-1) dX2_labelAt_34 (by decide) ?_
        exact hret _ _ _ (-1) () h rfl dX2_labelAt_35
      · replace h := h.2 c_2
        refine v_iload_n C dX2_labelAt_14 rfl 2 rfl ?_
        refine v_bipush C 16 dX2_labelAt_15 (by decide) ?_
        refine v_icmp_ge C 34 dX2_labelAt_17 (by decide) (fun c_1 => ?_) (fun c_1 => ?_)
        · replace h := h.1 c_1
          refine v_iconst C (-1) dX2_labelAt_34 (by decide) ?_
          exact hret _ _ _ (-1) () h rfl dX2_labelAt_35
        · replace h := h.2 c_1
          refine v_aload_n C dX2_labelAt_20 rfl 0 rfl ?_
          refine v_get C iX2_labelAt_2 tb hT.1 rfl 1 (by decide) mX2_labelAt_w1 rfl rfl dX2_labelAt_21 ?_
          refine v_iload_n C dX2_labelAt_24 rfl 2 rfl ?_
          refine v_bipush C 16 dX2_labelAt_25 (by decide) ?_
          refine v_imul C dX2_labelAt_27 ?_
          refine v_iload_n C dX2_labelAt_28 rfl 1 rfl ?_
          refine v_iadd C dX2_labelAt_29 ?_
          obtain ⟨hin_1, h⟩ := h
          refine v_iald C (tb + 3) hT.2.2.2.1 hin_1 dX2_labelAt_30 ?_
          refine v_goto C 35 dX2_labelAt_31 (by decide) ?_
          exact hret _ _ _ (t_labels ((a2 * 16) + a1).toNatClampNeg) () h rfl dX2_labelAt_35
-- QuarterMasks$Parts.reach
def rmX2_reach : Room := { frames := 2, cells := 0, slots := 0, locals := 62 }
theorem kX2_reach : yX2_reach.cls = RX2 ∧ yX2_reach.cls ≠ "java/lang/invoke/MethodHandle" ∧ yX2_reach.cls ≠ "java/lang/invoke/VarHandle" ∧ (parseMethodDescriptor yX2_reach.desc).map (fun d => d.parameters.length) = some 3 := by decide +kernel
theorem mX2_reach_w1 : Cond.fieldLink RX2 12 "QuarterMasks$Parts" "seen" "LQuarterMasks$Grid;" ∈ wsX2_reach := List.mem_of_getElem? (i := 1) rfl
theorem iX2_reach_2 : ∀ w ∈ wsX20, w ∈ wsX2_reach := fun w h => List.mem_cons_of_mem _ (List.mem_append_left _ (List.mem_append_right _ h))
theorem mX2_reach_w4 : Cond.fieldLink RX2 18 "QuarterMasks$Parts" "labels" "[I" ∈ wsX2_reach := List.mem_of_getElem? (i := 4) rfl
theorem mX2_reach_w3 : Cond.fieldLink RX2 28 "QuarterMasks$Parts" "parts" "I" ∈ wsX2_reach := List.mem_of_getElem? (i := 3) rfl
theorem mX2_reach_w5 : Cond.fieldLink RX2 22 "QuarterMasks$Parts" "reached" "[I" ∈ wsX2_reach := List.mem_of_getElem? (i := 5) rfl
theorem mX2_reach_w2 : Cond.fieldLink RX2 25 "QuarterMasks$Parts" "figures" "[I" ∈ wsX2_reach := List.mem_of_getElem? (i := 2) rfl
def wp_Pa_reach (t_seen : IA) (t_labels : IA) (t_reached : IA) (t_figures : IA) (t_parts : Int32) (a1 : Int32) (a2 : Int32) (a3 : Int32) (Q : Int32 → IA → IA → IA → Prop) : Prop :=
  wp_Gr_isDark t_seen a1 a2 (fun r_1 => (r_1 = 0 → (vp_in ((t_parts * 6) + 1) 768 ∧ (vp_in ((t_parts * 6) + 1) 768 ∧ (∀ f_figures_1 : IA, f_figures_1 = upd t_figures ((t_parts * 6) + 1).toNatClampNeg ((t_figures ((t_parts * 6) + 1).toNatClampNeg) + 1) → (Q a3 t_labels t_reached f_figures_1))))) ∧ (¬ r_1 = 0 → (wp_Pa_labelAt t_labels a1 a2 (fun r_2 => (r_2 = (-1) → ((a3 < 256 → (vp_in ((a2 * 16) + a1) 256 ∧ (∀ f_labels_1 : IA, f_labels_1 = upd t_labels ((a2 * 16) + a1).toNatClampNeg t_parts → (vp_in a3 256 ∧ (∀ f_reached_1 : IA, f_reached_1 = upd t_reached a3.toNatClampNeg ((a2 * 16) + a1) → (Q (a3 + 1) f_labels_1 f_reached_1 t_figures)))))) ∧ (¬ a3 < 256 → (Q a3 t_labels t_reached t_figures)))) ∧ (¬ r_2 = (-1) → (Q a3 t_labels t_reached t_figures))))))
set_option maxHeartbeats 4000000 in
theorem c_Pa_reach (l : Launch) (G : GG) (ad : Nat → Nat) (Wd : IA → IA → IA → IA → Int32 → va_W) (tb : Nat)  (hT : pW G ad Wd tb) (t_seen : IA) (t_labels : IA) (t_reached : IA) (t_figures : IA) (t_parts : Int32) (a1 : Int32) (a2 : Int32) (a3 : Int32) {Q : Int32 → IA → IA → IA → Prop} (h : wp_Pa_reach t_seen t_labels t_reached t_figures t_parts a1 a2 a3 Q) : qm_MI l yX2_reach wsX2_reach rmX2_reach G [.ref (ad tb), .int a1, .int a2, .int a3] (Wd t_seen t_labels t_reached t_figures t_parts) (fun (r : Int32) (u : IA × IA × IA) => Q r u.1 u.2.1 u.2.2) (fun (u : IA × IA × IA) => Wd t_seen u.1 u.2.1 u.2.2 t_parts) := by
  refine qm_mkI (cc := cX2_reach) (maxL := 4) (by decide) rfl (Nat.le_of_ble_eq_true rfl) ?_
  intro X C hret
  replace C : qm_C G 4 X cX2_reach wsX2_reach RX2 := C
  refine v_lv (lv' := [(0, .ref (ad tb)), (1, .int a1), (2, .int a2), (3, .int a3)]) rfl ?_
  unfold wp_Pa_reach at h
  refine v_aload_n C dX2_reach_0 rfl 0 rfl ?_
  refine v_get C iX2_reach_2 tb (hT t_seen t_labels t_reached t_figures t_parts).1.1 rfl 0 (by decide) mX2_reach_w1 rfl rfl dX2_reach_1 ?_
  refine v_iload_n C dX2_reach_4 rfl 1 rfl ?_
  refine v_iload_n C dX2_reach_5 rfl 2 rfl ?_
  refine v_callVi C (c_Gr_isDark l G ad (Wd t_seen t_labels t_reached t_figures t_parts) (tb + 1) (pR_seen (hT t_seen t_labels t_reached t_figures t_parts).1)  a1 a2 h) (tb + 1) (pR_seen (hT t_seen t_labels t_reached t_figures t_parts).1).1 rfl gX2_reach_X1_isDark rfl kX1_isDark ⟨rfl, rfl⟩ ⟨Nat.le_of_ble_eq_true rfl, Nat.le_of_ble_eq_true rfl⟩ rfl (Nat.le_of_ble_eq_true rfl) dX2_reach_6 (fun r_1 _ h => ?_)
  try dsimp only at h
  refine v_if_ne C 32 dX2_reach_9 (by decide) (fun c_3 => ?_) (fun c_3 => ?_)
  · replace h := h.2 c_3
    refine v_aload_n C dX2_reach_32 rfl 0 rfl ?_
    refine v_iload_n C dX2_reach_33 rfl 1 rfl ?_
    refine v_iload_n C dX2_reach_34 rfl 2 rfl ?_
    refine v_callVi C (c_Pa_labelAt l G ad (Wd t_seen t_labels t_reached t_figures t_parts) tb (hT t_seen t_labels t_reached t_figures t_parts).1  a1 a2 h) tb (hT t_seen t_labels t_reached t_figures t_parts).1.1 rfl gX2_reach_X2_labelAt rfl kX2_labelAt ⟨rfl, rfl⟩ ⟨Nat.le_of_ble_eq_true rfl, Nat.le_of_ble_eq_true rfl⟩ rfl (Nat.le_of_ble_eq_true rfl) dX2_reach_35 (fun r_2 _ h => ?_)
    try dsimp only at h
    refine v_iconst C (-1) dX2_reach_38 (by decide) ?_
    refine v_icmp_ne C 49 dX2_reach_39 (by decide) (fun c_2 => ?_) (fun c_2 => ?_)
    · replace h := h.2 c_2
      refine v_iload_n C dX2_reach_49 rfl 3 rfl ?_
      exact hret _ _ _ a3 (t_labels, t_reached, t_figures) h rfl dX2_reach_50
    · replace h := h.1 c_2
      refine v_iload_n C dX2_reach_42 rfl 3 rfl ?_
      refine v_sipush C 256 dX2_reach_43 (by decide) ?_
      refine v_icmp_lt C 51 dX2_reach_46 (by decide) (fun c_1 => ?_) (fun c_1 => ?_)
      · replace h := h.1 c_1
        refine v_aload_n C dX2_reach_51 rfl 0 rfl ?_
        refine v_get C iX2_reach_2 tb (hT t_seen t_labels t_reached t_figures t_parts).1.1 rfl 1 (by decide) mX2_reach_w4 rfl rfl dX2_reach_52 ?_
        refine v_iload_n C dX2_reach_55 rfl 2 rfl ?_
        refine v_bipush C 16 dX2_reach_56 (by decide) ?_
        refine v_imul C dX2_reach_58 ?_
        refine v_iload_n C dX2_reach_59 rfl 1 rfl ?_
        refine v_iadd C dX2_reach_60 ?_
        refine v_aload_n C dX2_reach_61 rfl 0 rfl ?_
        refine v_get C iX2_reach_2 tb (hT t_seen t_labels t_reached t_figures t_parts).1.1 rfl 4 (by decide) mX2_reach_w3 rfl rfl dX2_reach_62 ?_
        obtain ⟨hin_1, h⟩ := h
        obtain ⟨f_labels_1, ef_labels_1⟩ : ∃ y : IA, y = upd t_labels ((a2 * 16) + a1).toNatClampNeg t_parts := ⟨_, rfl⟩
        replace h := h f_labels_1 ef_labels_1
        refine v_iast C (tb + 3) (hT t_seen t_labels t_reached t_figures t_parts).1.2.2.2.1 (ws' := Wd t_seen f_labels_1 t_reached t_figures t_parts) (by subst ef_labels_1; exact ((hT t_seen t_labels t_reached t_figures t_parts).2.2.1 _)) hin_1 dX2_reach_65 ?_
        refine v_aload_n C dX2_reach_66 rfl 0 rfl ?_
        refine v_get C iX2_reach_2 tb (hT t_seen f_labels_1 t_reached t_figures t_parts).1.1 rfl 2 (by decide) mX2_reach_w5 rfl rfl dX2_reach_67 ?_
        refine v_iload_n C dX2_reach_70 rfl 3 rfl ?_
        refine v_iload_n C dX2_reach_71 rfl 2 rfl ?_
        refine v_bipush C 16 dX2_reach_72 (by decide) ?_
        refine v_imul C dX2_reach_74 ?_
        refine v_iload_n C dX2_reach_75 rfl 1 rfl ?_
        refine v_iadd C dX2_reach_76 ?_
        obtain ⟨hin_2, h⟩ := h
        obtain ⟨f_reached_1, ef_reached_1⟩ : ∃ y : IA, y = upd t_reached a3.toNatClampNeg ((a2 * 16) + a1) := ⟨_, rfl⟩
        replace h := h f_reached_1 ef_reached_1
        refine v_iast C (tb + 4) (hT t_seen f_labels_1 t_reached t_figures t_parts).1.2.2.2.2.1 (ws' := Wd t_seen f_labels_1 f_reached_1 t_figures t_parts) (by subst ef_reached_1; exact ((hT t_seen f_labels_1 t_reached t_figures t_parts).2.2.2.1 _)) hin_2 dX2_reach_77 ?_
        refine v_iload_n C dX2_reach_78 rfl 3 rfl ?_
        refine v_iconst C 1 dX2_reach_79 (by decide) ?_
        refine v_iadd C dX2_reach_80 ?_
        exact hret _ _ _ (a3 + 1) (f_labels_1, f_reached_1, t_figures) h rfl dX2_reach_81
      · replace h := h.2 c_1
        refine v_iload_n C dX2_reach_49 rfl 3 rfl ?_
        exact hret _ _ _ a3 (t_labels, t_reached, t_figures) h rfl dX2_reach_50
  · replace h := h.1 c_3
    refine v_aload_n C dX2_reach_12 rfl 0 rfl ?_
    refine v_get C iX2_reach_2 tb (hT t_seen t_labels t_reached t_figures t_parts).1.1 rfl 3 (by decide) mX2_reach_w2 rfl rfl dX2_reach_13 ?_
    refine v_aload_n C dX2_reach_16 rfl 0 rfl ?_
    refine v_get C iX2_reach_2 tb (hT t_seen t_labels t_reached t_figures t_parts).1.1 rfl 4 (by decide) mX2_reach_w3 rfl rfl dX2_reach_17 ?_
    refine v_bipush C 6 dX2_reach_20 (by decide) ?_
    refine v_imul C dX2_reach_22 ?_
    refine v_iconst C 1 dX2_reach_23 (by decide) ?_
    refine v_iadd C dX2_reach_24 ?_
    refine v_dup2 C dX2_reach_25 rfl rfl ?_
    obtain ⟨hin_3, h⟩ := h
    refine v_iald C (tb + 5) (hT t_seen t_labels t_reached t_figures t_parts).1.2.2.2.2.2 hin_3 dX2_reach_26 ?_
    refine v_iconst C 1 dX2_reach_27 (by decide) ?_
    refine v_iadd C dX2_reach_28 ?_
    obtain ⟨hin_4, h⟩ := h
    obtain ⟨f_figures_1, ef_figures_1⟩ : ∃ y : IA, y = upd t_figures ((t_parts * 6) + 1).toNatClampNeg ((t_figures ((t_parts * 6) + 1).toNatClampNeg) + 1) := ⟨_, rfl⟩
    replace h := h f_figures_1 ef_figures_1
    refine v_iast C (tb + 5) (hT t_seen t_labels t_reached t_figures t_parts).1.2.2.2.2.2 (ws' := Wd t_seen t_labels t_reached f_figures_1 t_parts) (by subst ef_figures_1; exact ((hT t_seen t_labels t_reached t_figures t_parts).2.2.2.2.1 _)) hin_4 dX2_reach_29 ?_
    refine v_iload_n C dX2_reach_30 rfl 3 rfl ?_
    exact hret _ _ _ a3 (t_labels, t_reached, f_figures_1) h rfl dX2_reach_31
-- QuarterMasks$Parts.beginFigures
def rmX2_beginFigures : Room := { frames := 1, cells := 0, slots := 0, locals := 40 }
theorem kX2_beginFigures : yX2_beginFigures.cls = RX2 ∧ yX2_beginFigures.cls ≠ "java/lang/invoke/MethodHandle" ∧ yX2_beginFigures.cls ≠ "java/lang/invoke/VarHandle" ∧ (parseMethodDescriptor yX2_beginFigures.desc).map (fun d => d.parameters.length) = some 2 := by decide +kernel
theorem mX2_beginFigures_w1 : Cond.fieldLink RX2 28 "QuarterMasks$Parts" "parts" "I" ∈ wsX2_beginFigures := List.mem_of_getElem? (i := 1) rfl
theorem iX2_beginFigures_2 : ∀ w ∈ wsX20, w ∈ wsX2_beginFigures := fun w h => List.mem_cons_of_mem _ (List.mem_append_right _ h)
theorem mX2_beginFigures_w2 : Cond.fieldLink RX2 25 "QuarterMasks$Parts" "figures" "[I" ∈ wsX2_beginFigures := List.mem_of_getElem? (i := 2) rfl
def wp_Pa_beginFigures (t_figures : IA) (t_parts : Int32) (a1 : Int32) (a2 : Int32) (Q : IA → Prop) : Prop :=
  ∀ x3_1 : Int32, x3_1 = (t_parts * 6) → (vp_in (x3_1 + 0) 768 ∧ (∀ f_figures_1 : IA, f_figures_1 = upd t_figures (x3_1 + 0).toNatClampNeg 0 → (vp_in (x3_1 + 1) 768 ∧ (∀ f_figures_2 : IA, f_figures_2 = upd f_figures_1 (x3_1 + 1).toNatClampNeg 0 → (vp_in (x3_1 + 2) 768 ∧ (∀ f_figures_3 : IA, f_figures_3 = upd f_figures_2 (x3_1 + 2).toNatClampNeg a1 → (vp_in (x3_1 + 3) 768 ∧ (∀ f_figures_4 : IA, f_figures_4 = upd f_figures_3 (x3_1 + 3).toNatClampNeg a2 → (vp_in (x3_1 + 4) 768 ∧ (∀ f_figures_5 : IA, f_figures_5 = upd f_figures_4 (x3_1 + 4).toNatClampNeg a1 → (vp_in (x3_1 + 5) 768 ∧ (∀ f_figures_6 : IA, f_figures_6 = upd f_figures_5 (x3_1 + 5).toNatClampNeg a2 → (Q f_figures_6)))))))))))))
set_option maxHeartbeats 4000000 in
theorem c_Pa_beginFigures (l : Launch) (G : GG) (ad : Nat → Nat) (Wd : IA → IA → IA → IA → Int32 → va_W) (tb : Nat)  (hT : pW G ad Wd tb) (t_seen : IA) (t_labels : IA) (t_reached : IA) (t_figures : IA) (t_parts : Int32) (a1 : Int32) (a2 : Int32) {Q : IA → Prop} (h : wp_Pa_beginFigures t_figures t_parts a1 a2 Q) : qm_MV l yX2_beginFigures wsX2_beginFigures rmX2_beginFigures G [.ref (ad tb), .int a1, .int a2] (Wd t_seen t_labels t_reached t_figures t_parts) (fun (u : IA) => Q u) (fun (u : IA) => Wd t_seen t_labels t_reached u t_parts) := by
  refine qm_mkV (cc := cX2_beginFigures) (maxL := 4) (by decide) rfl (Nat.le_of_ble_eq_true rfl) ?_
  intro X C hret
  replace C : qm_C G 4 X cX2_beginFigures wsX2_beginFigures RX2 := C
  refine v_lv (lv' := [(0, .ref (ad tb)), (1, .int a1), (2, .int a2)]) rfl ?_
  unfold wp_Pa_beginFigures at h
  refine v_aload_n C dX2_beginFigures_0 rfl 0 rfl ?_
  refine v_get C iX2_beginFigures_2 tb (hT t_seen t_labels t_reached t_figures t_parts).1.1 rfl 4 (by decide) mX2_beginFigures_w1 rfl rfl dX2_beginFigures_1 ?_
  refine v_bipush C 6 dX2_beginFigures_4 (by decide) ?_
  refine v_imul C dX2_beginFigures_6 ?_
  refine v_topi (fun x3_1 ex3_1 => ?_)
  replace h := h x3_1 ex3_1
  refine v_istore_n C [(3, .int x3_1), (0, .ref (ad tb)), (1, .int a1), (2, .int a2)] dX2_beginFigures_7 rfl (by decide) rfl ?_
  refine v_aload_n C dX2_beginFigures_8 rfl 1 rfl ?_
  refine v_get C iX2_beginFigures_2 tb (hT t_seen t_labels t_reached t_figures t_parts).1.1 rfl 3 (by decide) mX2_beginFigures_w2 rfl rfl dX2_beginFigures_9 ?_
  refine v_iload_n C dX2_beginFigures_12 rfl 0 rfl ?_
  refine v_iconst C 0 dX2_beginFigures_13 (by decide) ?_
  refine v_iadd C dX2_beginFigures_14 ?_
  refine v_iconst C 0 dX2_beginFigures_15 (by decide) ?_
  obtain ⟨hin_1, h⟩ := h
  obtain ⟨f_figures_1, ef_figures_1⟩ : ∃ y : IA, y = upd t_figures (x3_1 + 0).toNatClampNeg 0 := ⟨_, rfl⟩
  replace h := h f_figures_1 ef_figures_1
  refine v_iast C (tb + 5) (hT t_seen t_labels t_reached t_figures t_parts).1.2.2.2.2.2 (ws' := Wd t_seen t_labels t_reached f_figures_1 t_parts) (by subst ef_figures_1; exact ((hT t_seen t_labels t_reached t_figures t_parts).2.2.2.2.1 _)) hin_1 dX2_beginFigures_16 ?_
  refine v_aload_n C dX2_beginFigures_17 rfl 1 rfl ?_
  refine v_get C iX2_beginFigures_2 tb (hT t_seen t_labels t_reached f_figures_1 t_parts).1.1 rfl 3 (by decide) mX2_beginFigures_w2 rfl rfl dX2_beginFigures_18 ?_
  refine v_iload_n C dX2_beginFigures_21 rfl 0 rfl ?_
  refine v_iconst C 1 dX2_beginFigures_22 (by decide) ?_
  refine v_iadd C dX2_beginFigures_23 ?_
  refine v_iconst C 0 dX2_beginFigures_24 (by decide) ?_
  obtain ⟨hin_2, h⟩ := h
  obtain ⟨f_figures_2, ef_figures_2⟩ : ∃ y : IA, y = upd f_figures_1 (x3_1 + 1).toNatClampNeg 0 := ⟨_, rfl⟩
  replace h := h f_figures_2 ef_figures_2
  refine v_iast C (tb + 5) (hT t_seen t_labels t_reached f_figures_1 t_parts).1.2.2.2.2.2 (ws' := Wd t_seen t_labels t_reached f_figures_2 t_parts) (by subst ef_figures_2; exact ((hT t_seen t_labels t_reached f_figures_1 t_parts).2.2.2.2.1 _)) hin_2 dX2_beginFigures_25 ?_
  refine v_aload_n C dX2_beginFigures_26 rfl 1 rfl ?_
  refine v_get C iX2_beginFigures_2 tb (hT t_seen t_labels t_reached f_figures_2 t_parts).1.1 rfl 3 (by decide) mX2_beginFigures_w2 rfl rfl dX2_beginFigures_27 ?_
  refine v_iload_n C dX2_beginFigures_30 rfl 0 rfl ?_
  refine v_iconst C 2 dX2_beginFigures_31 (by decide) ?_
  refine v_iadd C dX2_beginFigures_32 ?_
  refine v_iload_n C dX2_beginFigures_33 rfl 2 rfl ?_
  obtain ⟨hin_3, h⟩ := h
  obtain ⟨f_figures_3, ef_figures_3⟩ : ∃ y : IA, y = upd f_figures_2 (x3_1 + 2).toNatClampNeg a1 := ⟨_, rfl⟩
  replace h := h f_figures_3 ef_figures_3
  refine v_iast C (tb + 5) (hT t_seen t_labels t_reached f_figures_2 t_parts).1.2.2.2.2.2 (ws' := Wd t_seen t_labels t_reached f_figures_3 t_parts) (by subst ef_figures_3; exact ((hT t_seen t_labels t_reached f_figures_2 t_parts).2.2.2.2.1 _)) hin_3 dX2_beginFigures_34 ?_
  refine v_aload_n C dX2_beginFigures_35 rfl 1 rfl ?_
  refine v_get C iX2_beginFigures_2 tb (hT t_seen t_labels t_reached f_figures_3 t_parts).1.1 rfl 3 (by decide) mX2_beginFigures_w2 rfl rfl dX2_beginFigures_36 ?_
  refine v_iload_n C dX2_beginFigures_39 rfl 0 rfl ?_
  refine v_iconst C 3 dX2_beginFigures_40 (by decide) ?_
  refine v_iadd C dX2_beginFigures_41 ?_
  refine v_iload_n C dX2_beginFigures_42 rfl 3 rfl ?_
  obtain ⟨hin_4, h⟩ := h
  obtain ⟨f_figures_4, ef_figures_4⟩ : ∃ y : IA, y = upd f_figures_3 (x3_1 + 3).toNatClampNeg a2 := ⟨_, rfl⟩
  replace h := h f_figures_4 ef_figures_4
  refine v_iast C (tb + 5) (hT t_seen t_labels t_reached f_figures_3 t_parts).1.2.2.2.2.2 (ws' := Wd t_seen t_labels t_reached f_figures_4 t_parts) (by subst ef_figures_4; exact ((hT t_seen t_labels t_reached f_figures_3 t_parts).2.2.2.2.1 _)) hin_4 dX2_beginFigures_43 ?_
  refine v_aload_n C dX2_beginFigures_44 rfl 1 rfl ?_
  refine v_get C iX2_beginFigures_2 tb (hT t_seen t_labels t_reached f_figures_4 t_parts).1.1 rfl 3 (by decide) mX2_beginFigures_w2 rfl rfl dX2_beginFigures_45 ?_
  refine v_iload_n C dX2_beginFigures_48 rfl 0 rfl ?_
  refine v_iconst C 4 dX2_beginFigures_49 (by decide) ?_
  refine v_iadd C dX2_beginFigures_50 ?_
  refine v_iload_n C dX2_beginFigures_51 rfl 2 rfl ?_
  obtain ⟨hin_5, h⟩ := h
  obtain ⟨f_figures_5, ef_figures_5⟩ : ∃ y : IA, y = upd f_figures_4 (x3_1 + 4).toNatClampNeg a1 := ⟨_, rfl⟩
  replace h := h f_figures_5 ef_figures_5
  refine v_iast C (tb + 5) (hT t_seen t_labels t_reached f_figures_4 t_parts).1.2.2.2.2.2 (ws' := Wd t_seen t_labels t_reached f_figures_5 t_parts) (by subst ef_figures_5; exact ((hT t_seen t_labels t_reached f_figures_4 t_parts).2.2.2.2.1 _)) hin_5 dX2_beginFigures_52 ?_
  refine v_aload_n C dX2_beginFigures_53 rfl 1 rfl ?_
  refine v_get C iX2_beginFigures_2 tb (hT t_seen t_labels t_reached f_figures_5 t_parts).1.1 rfl 3 (by decide) mX2_beginFigures_w2 rfl rfl dX2_beginFigures_54 ?_
  refine v_iload_n C dX2_beginFigures_57 rfl 0 rfl ?_
  refine v_iconst C 5 dX2_beginFigures_58 (by decide) ?_
  refine v_iadd C dX2_beginFigures_59 ?_
  refine v_iload_n C dX2_beginFigures_60 rfl 3 rfl ?_
  obtain ⟨hin_6, h⟩ := h
  obtain ⟨f_figures_6, ef_figures_6⟩ : ∃ y : IA, y = upd f_figures_5 (x3_1 + 5).toNatClampNeg a2 := ⟨_, rfl⟩
  replace h := h f_figures_6 ef_figures_6
  refine v_iast C (tb + 5) (hT t_seen t_labels t_reached f_figures_5 t_parts).1.2.2.2.2.2 (ws' := Wd t_seen t_labels t_reached f_figures_6 t_parts) (by subst ef_figures_6; exact ((hT t_seen t_labels t_reached f_figures_5 t_parts).2.2.2.2.1 _)) hin_6 dX2_beginFigures_61 ?_
  exact hret _ _ _ f_figures_6 h rfl dX2_beginFigures_62
-- QuarterMasks$Parts.noteFigures
def rmX2_noteFigures : Room := { frames := 1, cells := 0, slots := 0, locals := 40 }
theorem kX2_noteFigures : yX2_noteFigures.cls = RX2 ∧ yX2_noteFigures.cls ≠ "java/lang/invoke/MethodHandle" ∧ yX2_noteFigures.cls ≠ "java/lang/invoke/VarHandle" ∧ (parseMethodDescriptor yX2_noteFigures.desc).map (fun d => d.parameters.length) = some 2 := by decide +kernel
theorem mX2_noteFigures_w1 : Cond.fieldLink RX2 28 "QuarterMasks$Parts" "parts" "I" ∈ wsX2_noteFigures := List.mem_of_getElem? (i := 1) rfl
theorem iX2_noteFigures_2 : ∀ w ∈ wsX20, w ∈ wsX2_noteFigures := fun w h => List.mem_cons_of_mem _ (List.mem_append_right _ h)
theorem mX2_noteFigures_w2 : Cond.fieldLink RX2 25 "QuarterMasks$Parts" "figures" "[I" ∈ wsX2_noteFigures := List.mem_of_getElem? (i := 2) rfl
theorem mX2_noteFigures_w3 : Cond.methodLink RX2 69 Lib.Math.min.name ∈ wsX2_noteFigures := List.mem_of_getElem? (i := 3) rfl
theorem mX2_noteFigures_w4 : Cond.static Lib.Math.min.name ∈ wsX2_noteFigures := List.mem_of_getElem? (i := 4) rfl
theorem mX2_noteFigures_w5 : Cond.initialized "java/lang/Math" ∈ wsX2_noteFigures := List.mem_of_getElem? (i := 5) rfl
theorem mX2_noteFigures_w6 : Cond.code Lib.Math.min.name Lib.Math.min.code 2 (some .int) ∈ wsX2_noteFigures := List.mem_of_getElem? (i := 6) rfl
theorem mX2_noteFigures_w7 : Cond.methodLink RX2 74 Lib.Math.max.name ∈ wsX2_noteFigures := List.mem_of_getElem? (i := 7) rfl
theorem mX2_noteFigures_w8 : Cond.static Lib.Math.max.name ∈ wsX2_noteFigures := List.mem_of_getElem? (i := 8) rfl
theorem mX2_noteFigures_w9 : Cond.code Lib.Math.max.name Lib.Math.max.code 2 (some .int) ∈ wsX2_noteFigures := List.mem_of_getElem? (i := 9) rfl
def wp_Pa_noteFigures (t_figures : IA) (t_parts : Int32) (a1 : Int32) (a2 : Int32) (Q : IA → Prop) : Prop :=
  ∀ x3_1 : Int32, x3_1 = (t_parts * 6) → (vp_in (x3_1 + 0) 768 ∧ (vp_in (x3_1 + 0) 768 ∧ (∀ f_figures_1 : IA, f_figures_1 = upd t_figures (x3_1 + 0).toNatClampNeg ((t_figures (x3_1 + 0).toNatClampNeg) + 1) → (vp_in (x3_1 + 2) 768 ∧ (vp_in (x3_1 + 2) 768 ∧ (∀ f_figures_2 : IA, f_figures_2 = upd f_figures_1 (x3_1 + 2).toNatClampNeg (jmin (f_figures_1 (x3_1 + 2).toNatClampNeg) a1) → (vp_in (x3_1 + 3) 768 ∧ (vp_in (x3_1 + 3) 768 ∧ (∀ f_figures_3 : IA, f_figures_3 = upd f_figures_2 (x3_1 + 3).toNatClampNeg (jmin (f_figures_2 (x3_1 + 3).toNatClampNeg) a2) → (vp_in (x3_1 + 4) 768 ∧ (vp_in (x3_1 + 4) 768 ∧ (∀ f_figures_4 : IA, f_figures_4 = upd f_figures_3 (x3_1 + 4).toNatClampNeg (jmax (f_figures_3 (x3_1 + 4).toNatClampNeg) a1) → (vp_in (x3_1 + 5) 768 ∧ (vp_in (x3_1 + 5) 768 ∧ (∀ f_figures_5 : IA, f_figures_5 = upd f_figures_4 (x3_1 + 5).toNatClampNeg (jmax (f_figures_4 (x3_1 + 5).toNatClampNeg) a2) → (Q f_figures_5))))))))))))))))
set_option maxHeartbeats 4000000 in
theorem c_Pa_noteFigures (l : Launch) (G : GG) (ad : Nat → Nat) (Wd : IA → IA → IA → IA → Int32 → va_W) (tb : Nat)  (hT : pW G ad Wd tb) (t_seen : IA) (t_labels : IA) (t_reached : IA) (t_figures : IA) (t_parts : Int32) (a1 : Int32) (a2 : Int32) {Q : IA → Prop} (h : wp_Pa_noteFigures t_figures t_parts a1 a2 Q) : qm_MV l yX2_noteFigures wsX2_noteFigures rmX2_noteFigures G [.ref (ad tb), .int a1, .int a2] (Wd t_seen t_labels t_reached t_figures t_parts) (fun (u : IA) => Q u) (fun (u : IA) => Wd t_seen t_labels t_reached u t_parts) := by
  refine qm_mkV (cc := cX2_noteFigures) (maxL := 4) (by decide) rfl (Nat.le_of_ble_eq_true rfl) ?_
  intro X C hret
  replace C : qm_C G 4 X cX2_noteFigures wsX2_noteFigures RX2 := C
  refine v_lv (lv' := [(0, .ref (ad tb)), (1, .int a1), (2, .int a2)]) rfl ?_
  unfold wp_Pa_noteFigures at h
  refine v_aload_n C dX2_noteFigures_0 rfl 0 rfl ?_
  refine v_get C iX2_noteFigures_2 tb (hT t_seen t_labels t_reached t_figures t_parts).1.1 rfl 4 (by decide) mX2_noteFigures_w1 rfl rfl dX2_noteFigures_1 ?_
  refine v_bipush C 6 dX2_noteFigures_4 (by decide) ?_
  refine v_imul C dX2_noteFigures_6 ?_
  refine v_topi (fun x3_1 ex3_1 => ?_)
  replace h := h x3_1 ex3_1
  refine v_istore_n C [(3, .int x3_1), (0, .ref (ad tb)), (1, .int a1), (2, .int a2)] dX2_noteFigures_7 rfl (by decide) rfl ?_
  refine v_aload_n C dX2_noteFigures_8 rfl 1 rfl ?_
  refine v_get C iX2_noteFigures_2 tb (hT t_seen t_labels t_reached t_figures t_parts).1.1 rfl 3 (by decide) mX2_noteFigures_w2 rfl rfl dX2_noteFigures_9 ?_
  refine v_iload_n C dX2_noteFigures_12 rfl 0 rfl ?_
  refine v_iconst C 0 dX2_noteFigures_13 (by decide) ?_
  refine v_iadd C dX2_noteFigures_14 ?_
  refine v_dup2 C dX2_noteFigures_15 rfl rfl ?_
  obtain ⟨hin_1, h⟩ := h
  refine v_iald C (tb + 5) (hT t_seen t_labels t_reached t_figures t_parts).1.2.2.2.2.2 hin_1 dX2_noteFigures_16 ?_
  refine v_iconst C 1 dX2_noteFigures_17 (by decide) ?_
  refine v_iadd C dX2_noteFigures_18 ?_
  obtain ⟨hin_2, h⟩ := h
  obtain ⟨f_figures_1, ef_figures_1⟩ : ∃ y : IA, y = upd t_figures (x3_1 + 0).toNatClampNeg ((t_figures (x3_1 + 0).toNatClampNeg) + 1) := ⟨_, rfl⟩
  replace h := h f_figures_1 ef_figures_1
  refine v_iast C (tb + 5) (hT t_seen t_labels t_reached t_figures t_parts).1.2.2.2.2.2 (ws' := Wd t_seen t_labels t_reached f_figures_1 t_parts) (by subst ef_figures_1; exact ((hT t_seen t_labels t_reached t_figures t_parts).2.2.2.2.1 _)) hin_2 dX2_noteFigures_19 ?_
  refine v_aload_n C dX2_noteFigures_20 rfl 1 rfl ?_
  refine v_get C iX2_noteFigures_2 tb (hT t_seen t_labels t_reached f_figures_1 t_parts).1.1 rfl 3 (by decide) mX2_noteFigures_w2 rfl rfl dX2_noteFigures_21 ?_
  refine v_iload_n C dX2_noteFigures_24 rfl 0 rfl ?_
  refine v_iconst C 2 dX2_noteFigures_25 (by decide) ?_
  refine v_iadd C dX2_noteFigures_26 ?_
  refine v_aload_n C dX2_noteFigures_27 rfl 1 rfl ?_
  refine v_get C iX2_noteFigures_2 tb (hT t_seen t_labels t_reached f_figures_1 t_parts).1.1 rfl 3 (by decide) mX2_noteFigures_w2 rfl rfl dX2_noteFigures_28 ?_
  refine v_iload_n C dX2_noteFigures_31 rfl 0 rfl ?_
  refine v_iconst C 2 dX2_noteFigures_32 (by decide) ?_
  refine v_iadd C dX2_noteFigures_33 ?_
  obtain ⟨hin_3, h⟩ := h
  refine v_iald C (tb + 5) (hT t_seen t_labels t_reached f_figures_1 t_parts).1.2.2.2.2.2 hin_3 dX2_noteFigures_34 ?_
  refine v_iload_n C dX2_noteFigures_35 rfl 2 rfl ?_
  refine v_mmin C (List.forall_mem_cons.mpr ⟨mX2_noteFigures_w3, List.forall_mem_cons.mpr ⟨mX2_noteFigures_w4, List.forall_mem_cons.mpr ⟨mX2_noteFigures_w5, List.forall_mem_cons.mpr ⟨mX2_noteFigures_w6, fun _ h => absurd h List.not_mem_nil⟩⟩⟩⟩) ⟨Nat.le_of_ble_eq_true rfl, Nat.le_of_ble_eq_true rfl⟩ (Nat.le_of_ble_eq_true rfl) dX2_noteFigures_36 ?_
  obtain ⟨hin_4, h⟩ := h
  obtain ⟨f_figures_2, ef_figures_2⟩ : ∃ y : IA, y = upd f_figures_1 (x3_1 + 2).toNatClampNeg (jmin (f_figures_1 (x3_1 + 2).toNatClampNeg) a1) := ⟨_, rfl⟩
  replace h := h f_figures_2 ef_figures_2
  refine v_iast C (tb + 5) (hT t_seen t_labels t_reached f_figures_1 t_parts).1.2.2.2.2.2 (ws' := Wd t_seen t_labels t_reached f_figures_2 t_parts) (by subst ef_figures_2; exact ((hT t_seen t_labels t_reached f_figures_1 t_parts).2.2.2.2.1 _)) hin_4 dX2_noteFigures_39 ?_
  refine v_aload_n C dX2_noteFigures_40 rfl 1 rfl ?_
  refine v_get C iX2_noteFigures_2 tb (hT t_seen t_labels t_reached f_figures_2 t_parts).1.1 rfl 3 (by decide) mX2_noteFigures_w2 rfl rfl dX2_noteFigures_41 ?_
  refine v_iload_n C dX2_noteFigures_44 rfl 0 rfl ?_
  refine v_iconst C 3 dX2_noteFigures_45 (by decide) ?_
  refine v_iadd C dX2_noteFigures_46 ?_
  refine v_aload_n C dX2_noteFigures_47 rfl 1 rfl ?_
  refine v_get C iX2_noteFigures_2 tb (hT t_seen t_labels t_reached f_figures_2 t_parts).1.1 rfl 3 (by decide) mX2_noteFigures_w2 rfl rfl dX2_noteFigures_48 ?_
  refine v_iload_n C dX2_noteFigures_51 rfl 0 rfl ?_
  refine v_iconst C 3 dX2_noteFigures_52 (by decide) ?_
  refine v_iadd C dX2_noteFigures_53 ?_
  obtain ⟨hin_5, h⟩ := h
  refine v_iald C (tb + 5) (hT t_seen t_labels t_reached f_figures_2 t_parts).1.2.2.2.2.2 hin_5 dX2_noteFigures_54 ?_
  refine v_iload_n C dX2_noteFigures_55 rfl 3 rfl ?_
  refine v_mmin C (List.forall_mem_cons.mpr ⟨mX2_noteFigures_w3, List.forall_mem_cons.mpr ⟨mX2_noteFigures_w4, List.forall_mem_cons.mpr ⟨mX2_noteFigures_w5, List.forall_mem_cons.mpr ⟨mX2_noteFigures_w6, fun _ h => absurd h List.not_mem_nil⟩⟩⟩⟩) ⟨Nat.le_of_ble_eq_true rfl, Nat.le_of_ble_eq_true rfl⟩ (Nat.le_of_ble_eq_true rfl) dX2_noteFigures_56 ?_
  obtain ⟨hin_6, h⟩ := h
  obtain ⟨f_figures_3, ef_figures_3⟩ : ∃ y : IA, y = upd f_figures_2 (x3_1 + 3).toNatClampNeg (jmin (f_figures_2 (x3_1 + 3).toNatClampNeg) a2) := ⟨_, rfl⟩
  replace h := h f_figures_3 ef_figures_3
  refine v_iast C (tb + 5) (hT t_seen t_labels t_reached f_figures_2 t_parts).1.2.2.2.2.2 (ws' := Wd t_seen t_labels t_reached f_figures_3 t_parts) (by subst ef_figures_3; exact ((hT t_seen t_labels t_reached f_figures_2 t_parts).2.2.2.2.1 _)) hin_6 dX2_noteFigures_59 ?_
  refine v_aload_n C dX2_noteFigures_60 rfl 1 rfl ?_
  refine v_get C iX2_noteFigures_2 tb (hT t_seen t_labels t_reached f_figures_3 t_parts).1.1 rfl 3 (by decide) mX2_noteFigures_w2 rfl rfl dX2_noteFigures_61 ?_
  refine v_iload_n C dX2_noteFigures_64 rfl 0 rfl ?_
  refine v_iconst C 4 dX2_noteFigures_65 (by decide) ?_
  refine v_iadd C dX2_noteFigures_66 ?_
  refine v_aload_n C dX2_noteFigures_67 rfl 1 rfl ?_
  refine v_get C iX2_noteFigures_2 tb (hT t_seen t_labels t_reached f_figures_3 t_parts).1.1 rfl 3 (by decide) mX2_noteFigures_w2 rfl rfl dX2_noteFigures_68 ?_
  refine v_iload_n C dX2_noteFigures_71 rfl 0 rfl ?_
  refine v_iconst C 4 dX2_noteFigures_72 (by decide) ?_
  refine v_iadd C dX2_noteFigures_73 ?_
  obtain ⟨hin_7, h⟩ := h
  refine v_iald C (tb + 5) (hT t_seen t_labels t_reached f_figures_3 t_parts).1.2.2.2.2.2 hin_7 dX2_noteFigures_74 ?_
  refine v_iload_n C dX2_noteFigures_75 rfl 2 rfl ?_
  refine v_mmax C (List.forall_mem_cons.mpr ⟨mX2_noteFigures_w7, List.forall_mem_cons.mpr ⟨mX2_noteFigures_w8, List.forall_mem_cons.mpr ⟨mX2_noteFigures_w5, List.forall_mem_cons.mpr ⟨mX2_noteFigures_w9, fun _ h => absurd h List.not_mem_nil⟩⟩⟩⟩) ⟨Nat.le_of_ble_eq_true rfl, Nat.le_of_ble_eq_true rfl⟩ (Nat.le_of_ble_eq_true rfl) dX2_noteFigures_76 ?_
  obtain ⟨hin_8, h⟩ := h
  obtain ⟨f_figures_4, ef_figures_4⟩ : ∃ y : IA, y = upd f_figures_3 (x3_1 + 4).toNatClampNeg (jmax (f_figures_3 (x3_1 + 4).toNatClampNeg) a1) := ⟨_, rfl⟩
  replace h := h f_figures_4 ef_figures_4
  refine v_iast C (tb + 5) (hT t_seen t_labels t_reached f_figures_3 t_parts).1.2.2.2.2.2 (ws' := Wd t_seen t_labels t_reached f_figures_4 t_parts) (by subst ef_figures_4; exact ((hT t_seen t_labels t_reached f_figures_3 t_parts).2.2.2.2.1 _)) hin_8 dX2_noteFigures_79 ?_
  refine v_aload_n C dX2_noteFigures_80 rfl 1 rfl ?_
  refine v_get C iX2_noteFigures_2 tb (hT t_seen t_labels t_reached f_figures_4 t_parts).1.1 rfl 3 (by decide) mX2_noteFigures_w2 rfl rfl dX2_noteFigures_81 ?_
  refine v_iload_n C dX2_noteFigures_84 rfl 0 rfl ?_
  refine v_iconst C 5 dX2_noteFigures_85 (by decide) ?_
  refine v_iadd C dX2_noteFigures_86 ?_
  refine v_aload_n C dX2_noteFigures_87 rfl 1 rfl ?_
  refine v_get C iX2_noteFigures_2 tb (hT t_seen t_labels t_reached f_figures_4 t_parts).1.1 rfl 3 (by decide) mX2_noteFigures_w2 rfl rfl dX2_noteFigures_88 ?_
  refine v_iload_n C dX2_noteFigures_91 rfl 0 rfl ?_
  refine v_iconst C 5 dX2_noteFigures_92 (by decide) ?_
  refine v_iadd C dX2_noteFigures_93 ?_
  obtain ⟨hin_9, h⟩ := h
  refine v_iald C (tb + 5) (hT t_seen t_labels t_reached f_figures_4 t_parts).1.2.2.2.2.2 hin_9 dX2_noteFigures_94 ?_
  refine v_iload_n C dX2_noteFigures_95 rfl 3 rfl ?_
  refine v_mmax C (List.forall_mem_cons.mpr ⟨mX2_noteFigures_w7, List.forall_mem_cons.mpr ⟨mX2_noteFigures_w8, List.forall_mem_cons.mpr ⟨mX2_noteFigures_w5, List.forall_mem_cons.mpr ⟨mX2_noteFigures_w9, fun _ h => absurd h List.not_mem_nil⟩⟩⟩⟩) ⟨Nat.le_of_ble_eq_true rfl, Nat.le_of_ble_eq_true rfl⟩ (Nat.le_of_ble_eq_true rfl) dX2_noteFigures_96 ?_
  obtain ⟨hin_10, h⟩ := h
  obtain ⟨f_figures_5, ef_figures_5⟩ : ∃ y : IA, y = upd f_figures_4 (x3_1 + 5).toNatClampNeg (jmax (f_figures_4 (x3_1 + 5).toNatClampNeg) a2) := ⟨_, rfl⟩
  replace h := h f_figures_5 ef_figures_5
  refine v_iast C (tb + 5) (hT t_seen t_labels t_reached f_figures_4 t_parts).1.2.2.2.2.2 (ws' := Wd t_seen t_labels t_reached f_figures_5 t_parts) (by subst ef_figures_5; exact ((hT t_seen t_labels t_reached f_figures_4 t_parts).2.2.2.2.1 _)) hin_10 dX2_noteFigures_99 ?_
  exact hret _ _ _ f_figures_5 h rfl dX2_noteFigures_100
-- QuarterMasks$Parts.gather
def rmX2_gather : Room := { frames := 3, cells := 0, slots := 0, locals := 85 }
theorem kX2_gather : yX2_gather.cls = RX2 ∧ yX2_gather.cls ≠ "java/lang/invoke/MethodHandle" ∧ yX2_gather.cls ≠ "java/lang/invoke/VarHandle" ∧ (parseMethodDescriptor yX2_gather.desc).map (fun d => d.parameters.length) = some 1 := by decide +kernel
theorem mX2_gather_w1 : Cond.fieldLink RX2 22 "QuarterMasks$Parts" "reached" "[I" ∈ wsX2_gather := List.mem_of_getElem? (i := 1) rfl
theorem iX2_gather_2 : ∀ w ∈ wsX20, w ∈ wsX2_gather := fun w h => List.mem_cons_of_mem _ (List.mem_append_left _ (List.mem_append_right _ h))
def wl_Pa_gather_28 (t_seen : IA) (t_parts : Int32) (Q : IA → IA → IA → Prop) : Nat → Int32 → Int32 → Int32 → Int32 → IA → IA → IA → Prop
  | 0, _, _, _, _, _, _, _ => False
  | n + 1, x5_1, x4_1, x3_2, x2_2, tlabels_1, treached_1, tfigures_1 => (x4_1 ≤ x5_1 → (Q tlabels_1 treached_1 tfigures_1)) ∧ (¬ x4_1 ≤ x5_1 → ((256 ≤ x5_1 → (Q tlabels_1 treached_1 tfigures_1)) ∧ (¬ 256 ≤ x5_1 → (vp_in x5_1 256 ∧ (∀ x2_3 : Int32, x2_3 = (jrem (treached_1 x5_1.toNatClampNeg) 16) → (vp_in x5_1 256 ∧ (∀ x3_3 : Int32, x3_3 = ((treached_1 x5_1.toNatClampNeg) / 16) → (wp_Pa_noteFigures tfigures_1 t_parts x2_3 x3_3 (fun m_figures_3 => wp_Pa_reach t_seen tlabels_1 treached_1 m_figures_3 t_parts x2_3 (x3_3 - 1) x4_1 (fun r_2 m_labels_2 m_reached_2 m_figures_4 => wp_Pa_reach t_seen m_labels_2 m_reached_2 m_figures_4 t_parts (x2_3 - 1) x3_3 r_2 (fun r_3 m_labels_3 m_reached_3 m_figures_5 => wp_Pa_reach t_seen m_labels_3 m_reached_3 m_figures_5 t_parts (x2_3 + 1) x3_3 r_3 (fun r_4 m_labels_4 m_reached_4 m_figures_6 => wp_Pa_reach t_seen m_labels_4 m_reached_4 m_figures_6 t_parts x2_3 (x3_3 + 1) r_4 (fun r_5 m_labels_5 m_reached_5 m_figures_7 => (wl_Pa_gather_28 t_seen t_parts Q n) (x5_1 + 1) r_5 x3_3 x2_3 m_labels_5 m_reached_5 m_figures_7)))))))))))))
def wp_Pa_gather (t_seen : IA) (t_labels : IA) (t_reached : IA) (t_figures : IA) (t_parts : Int32) (a1 : Int32) (Q : IA → IA → IA → Prop) : Prop :=
  ∀ x2_1 : Int32, x2_1 = (jrem a1 16) → (∀ x3_1 : Int32, x3_1 = (a1 / 16) → (wp_Pa_beginFigures t_figures t_parts x2_1 x3_1 (fun m_figures_1 => wp_Pa_reach t_seen t_labels t_reached m_figures_1 t_parts x2_1 x3_1 0 (fun r_1 m_labels_1 m_reached_1 m_figures_2 => ∃ k_1 : Nat, wl_Pa_gather_28 t_seen t_parts Q k_1 0 r_1 x3_1 x2_1 m_labels_1 m_reached_1 m_figures_2))))
set_option maxHeartbeats 4000000 in
theorem c_Pa_gather (l : Launch) (G : GG) (ad : Nat → Nat) (Wd : IA → IA → IA → IA → Int32 → va_W) (tb : Nat)  (hT : pW G ad Wd tb) (t_seen : IA) (t_labels : IA) (t_reached : IA) (t_figures : IA) (t_parts : Int32) (a1 : Int32) {Q : IA → IA → IA → Prop} (h : wp_Pa_gather t_seen t_labels t_reached t_figures t_parts a1 Q) : qm_MV l yX2_gather wsX2_gather rmX2_gather G [.ref (ad tb), .int a1] (Wd t_seen t_labels t_reached t_figures t_parts) (fun (u : IA × IA × IA) => Q u.1 u.2.1 u.2.2) (fun (u : IA × IA × IA) => Wd t_seen u.1 u.2.1 u.2.2 t_parts) := by
  refine qm_mkV (cc := cX2_gather) (maxL := 6) (by decide) rfl (Nat.le_of_ble_eq_true rfl) ?_
  intro X C hret
  replace C : qm_C G 6 X cX2_gather wsX2_gather RX2 := C
  refine v_lv (lv' := [(0, .ref (ad tb)), (1, .int a1)]) rfl ?_
  unfold wp_Pa_gather at h
  refine v_iload_n C dX2_gather_0 rfl 1 rfl ?_
  refine v_bipush C 16 dX2_gather_1 (by decide) ?_
  refine v_irem C dX2_gather_3 (by decide) ?_
  refine v_topi (fun x2_1 ex2_1 => ?_)
  replace h := h x2_1 ex2_1
  refine v_istore_n C [(2, .int x2_1), (0, .ref (ad tb)), (1, .int a1)] dX2_gather_4 rfl (by decide) rfl ?_
  refine v_iload_n C dX2_gather_5 rfl 2 rfl ?_
  refine v_bipush C 16 dX2_gather_6 (by decide) ?_
  refine v_idiv C dX2_gather_8 (by decide) ?_
  refine v_topi (fun x3_1 ex3_1 => ?_)
  replace h := h x3_1 ex3_1
  refine v_istore_n C [(3, .int x3_1), (2, .int x2_1), (0, .ref (ad tb)), (1, .int a1)] dX2_gather_9 rfl (by decide) rfl ?_
  refine v_aload_n C dX2_gather_10 rfl 2 rfl ?_
  refine v_iload_n C dX2_gather_11 rfl 1 rfl ?_
  refine v_iload_n C dX2_gather_12 rfl 0 rfl ?_
  refine v_callVv C (c_Pa_beginFigures l G ad (fun y0 y1 y2 y3 y4 => Wd y0 y1 y2 y3 y4) tb hT t_seen t_labels t_reached t_figures t_parts x2_1 x3_1 h) tb (hT t_seen t_labels t_reached t_figures t_parts).1.1 rfl gX2_gather_X2_beginFigures rfl kX2_beginFigures ⟨rfl, rfl⟩ ⟨Nat.le_of_ble_eq_true rfl, Nat.le_of_ble_eq_true rfl⟩ rfl (Nat.le_of_ble_eq_true rfl) dX2_gather_13 (fun m_figures_1 h => ?_)
  try dsimp only at h
  refine v_world (ws' := Wd t_seen t_labels t_reached m_figures_1 t_parts) rfl ?_
  refine v_aload_n C dX2_gather_16 rfl 2 rfl ?_
  refine v_iload_n C dX2_gather_17 rfl 1 rfl ?_
  refine v_iload_n C dX2_gather_18 rfl 0 rfl ?_
  refine v_iconst C 0 dX2_gather_19 (by decide) ?_
  refine v_callVi C (c_Pa_reach l G ad (fun y0 y1 y2 y3 y4 => Wd y0 y1 y2 y3 y4) tb hT t_seen t_labels t_reached m_figures_1 t_parts x2_1 x3_1 0 h) tb (hT t_seen t_labels t_reached m_figures_1 t_parts).1.1 rfl gX2_gather_X2_reach rfl kX2_reach ⟨rfl, rfl⟩ ⟨Nat.le_of_ble_eq_true rfl, Nat.le_of_ble_eq_true rfl⟩ rfl (Nat.le_of_ble_eq_true rfl) dX2_gather_20 (fun r_1 u h => ?_)
  obtain ⟨m_labels_1, m_reached_1, m_figures_2⟩ := u
  try dsimp only at h
  refine v_world (ws' := Wd t_seen m_labels_1 m_reached_1 m_figures_2 t_parts) rfl ?_
  refine v_istore C [(4, .int r_1), (3, .int x3_1), (2, .int x2_1), (0, .ref (ad tb)), (1, .int a1)] dX2_gather_23 (by decide) rfl ?_
  refine v_iconst C 0 dX2_gather_25 (by decide) ?_
  refine v_istore C [(5, .int 0), (4, .int r_1), (3, .int x3_1), (2, .int x2_1), (0, .ref (ad tb)), (1, .int a1)] dX2_gather_26 (by decide) rfl ?_
  have hl_1 : ∀ n_1 : Nat, ∀ (x5_1 : Int32) (x4_1 : Int32) (x3_2 : Int32) (x2_2 : Int32) (tlabels_1 : IA) (treached_1 : IA) (tfigures_1 : IA), wl_Pa_gather_28 t_seen t_parts Q n_1 x5_1 x4_1 x3_2 x2_2 tlabels_1 treached_1 tfigures_1 → qm_V l G rmX2_gather 6 X (Wd t_seen tlabels_1 treached_1 tfigures_1 t_parts) [(5, .int x5_1), (4, .int x4_1), (3, .int x3_2), (2, .int x2_2), (0, .ref (ad tb)), (1, .int a1)] 28 [] := by
    intro n_1
    induction n_1 with
    | zero =>
      intro x5_1 x4_1 x3_2 x2_2 tlabels_1 treached_1 tfigures_1 h
      exact False.elim h
    | succ n_1 ih_1 =>
      intro x5_1 x4_1 x3_2 x2_2 tlabels_1 treached_1 tfigures_1 h
      rw [wl_Pa_gather_28] at h
      refine v_iload C dX2_gather_28 0 rfl ?_
      refine v_iload C dX2_gather_30 1 rfl ?_
      refine v_icmp_ge C 125 dX2_gather_32 (by decide) (fun c_2 => ?_) (fun c_2 => ?_)
      · replace h := h.1 c_2
        exact hret _ _ _ (tlabels_1, treached_1, tfigures_1) h rfl dX2_gather_125
      · replace h := h.2 c_2
        refine v_iload C dX2_gather_35 0 rfl ?_
        refine v_sipush C 256 dX2_gather_37 (by decide) ?_
        refine v_icmp_ge C 125 dX2_gather_40 (by decide) (fun c_1 => ?_) (fun c_1 => ?_)
        · replace h := h.1 c_1
          exact hret _ _ _ (tlabels_1, treached_1, tfigures_1) h rfl dX2_gather_125
        · replace h := h.2 c_1
          refine v_aload_n C dX2_gather_43 rfl 4 rfl ?_
          refine v_get C iX2_gather_2 tb (hT t_seen tlabels_1 treached_1 tfigures_1 t_parts).1.1 rfl 2 (by decide) mX2_gather_w1 rfl rfl dX2_gather_44 ?_
          refine v_iload C dX2_gather_47 0 rfl ?_
          obtain ⟨hin_1, h⟩ := h
          refine v_iald C (tb + 4) (hT t_seen tlabels_1 treached_1 tfigures_1 t_parts).1.2.2.2.2.1 hin_1 dX2_gather_49 ?_
          refine v_bipush C 16 dX2_gather_50 (by decide) ?_
          refine v_irem C dX2_gather_52 (by decide) ?_
          refine v_topi (fun x2_3 ex2_3 => ?_)
          replace h := h x2_3 ex2_3
          refine v_istore_n C [(2, .int x2_3), (5, .int x5_1), (4, .int x4_1), (3, .int x3_2), (0, .ref (ad tb)), (1, .int a1)] dX2_gather_53 rfl (by decide) rfl ?_
          refine v_aload_n C dX2_gather_54 rfl 4 rfl ?_
          refine v_get C iX2_gather_2 tb (hT t_seen tlabels_1 treached_1 tfigures_1 t_parts).1.1 rfl 2 (by decide) mX2_gather_w1 rfl rfl dX2_gather_55 ?_
          refine v_iload C dX2_gather_58 1 rfl ?_
          obtain ⟨hin_2, h⟩ := h
          refine v_iald C (tb + 4) (hT t_seen tlabels_1 treached_1 tfigures_1 t_parts).1.2.2.2.2.1 hin_2 dX2_gather_60 ?_
          refine v_bipush C 16 dX2_gather_61 (by decide) ?_
          refine v_idiv C dX2_gather_63 (by decide) ?_
          refine v_topi (fun x3_3 ex3_3 => ?_)
          replace h := h x3_3 ex3_3
          refine v_istore_n C [(3, .int x3_3), (2, .int x2_3), (5, .int x5_1), (4, .int x4_1), (0, .ref (ad tb)), (1, .int a1)] dX2_gather_64 rfl (by decide) rfl ?_
          refine v_aload_n C dX2_gather_65 rfl 4 rfl ?_
          refine v_iload_n C dX2_gather_66 rfl 1 rfl ?_
          refine v_iload_n C dX2_gather_67 rfl 0 rfl ?_
          refine v_callVv C (c_Pa_noteFigures l G ad (fun y0 y1 y2 y3 y4 => Wd y0 y1 y2 y3 y4) tb hT t_seen tlabels_1 treached_1 tfigures_1 t_parts x2_3 x3_3 h) tb (hT t_seen tlabels_1 treached_1 tfigures_1 t_parts).1.1 rfl gX2_gather_X2_noteFigures rfl kX2_noteFigures ⟨rfl, rfl⟩ ⟨Nat.le_of_ble_eq_true rfl, Nat.le_of_ble_eq_true rfl⟩ rfl (Nat.le_of_ble_eq_true rfl) dX2_gather_68 (fun m_figures_3 h => ?_)
          try dsimp only at h
          refine v_world (ws' := Wd t_seen tlabels_1 treached_1 m_figures_3 t_parts) rfl ?_
          refine v_aload_n C dX2_gather_71 rfl 4 rfl ?_
          refine v_iload_n C dX2_gather_72 rfl 1 rfl ?_
          refine v_iload_n C dX2_gather_73 rfl 0 rfl ?_
          refine v_iconst C 1 dX2_gather_74 (by decide) ?_
          refine v_isub C dX2_gather_75 ?_
          refine v_iload C dX2_gather_76 3 rfl ?_
          refine v_callVi C (c_Pa_reach l G ad (fun y0 y1 y2 y3 y4 => Wd y0 y1 y2 y3 y4) tb hT t_seen tlabels_1 treached_1 m_figures_3 t_parts x2_3 (x3_3 - 1) x4_1 h) tb (hT t_seen tlabels_1 treached_1 m_figures_3 t_parts).1.1 rfl gX2_gather_X2_reach rfl kX2_reach ⟨rfl, rfl⟩ ⟨Nat.le_of_ble_eq_true rfl, Nat.le_of_ble_eq_true rfl⟩ rfl (Nat.le_of_ble_eq_true rfl) dX2_gather_78 (fun r_2 u h => ?_)
          obtain ⟨m_labels_2, m_reached_2, m_figures_4⟩ := u
          try dsimp only at h
          refine v_world (ws' := Wd t_seen m_labels_2 m_reached_2 m_figures_4 t_parts) rfl ?_
          refine v_istore C [(4, .int r_2), (3, .int x3_3), (2, .int x2_3), (5, .int x5_1), (0, .ref (ad tb)), (1, .int a1)] dX2_gather_81 (by decide) rfl ?_
          refine v_aload_n C dX2_gather_83 rfl 4 rfl ?_
          refine v_iload_n C dX2_gather_84 rfl 2 rfl ?_
          refine v_iconst C 1 dX2_gather_85 (by decide) ?_
          refine v_isub C dX2_gather_86 ?_
          refine v_iload_n C dX2_gather_87 rfl 1 rfl ?_
          refine v_iload C dX2_gather_88 0 rfl ?_
          refine v_callVi C (c_Pa_reach l G ad (fun y0 y1 y2 y3 y4 => Wd y0 y1 y2 y3 y4) tb hT t_seen m_labels_2 m_reached_2 m_figures_4 t_parts (x2_3 - 1) x3_3 r_2 h) tb (hT t_seen m_labels_2 m_reached_2 m_figures_4 t_parts).1.1 rfl gX2_gather_X2_reach rfl kX2_reach ⟨rfl, rfl⟩ ⟨Nat.le_of_ble_eq_true rfl, Nat.le_of_ble_eq_true rfl⟩ rfl (Nat.le_of_ble_eq_true rfl) dX2_gather_90 (fun r_3 u h => ?_)
          obtain ⟨m_labels_3, m_reached_3, m_figures_5⟩ := u
          try dsimp only at h
          refine v_world (ws' := Wd t_seen m_labels_3 m_reached_3 m_figures_5 t_parts) rfl ?_
          refine v_istore C [(4, .int r_3), (3, .int x3_3), (2, .int x2_3), (5, .int x5_1), (0, .ref (ad tb)), (1, .int a1)] dX2_gather_93 (by decide) rfl ?_
          refine v_aload_n C dX2_gather_95 rfl 4 rfl ?_
          refine v_iload_n C dX2_gather_96 rfl 2 rfl ?_
          refine v_iconst C 1 dX2_gather_97 (by decide) ?_
          refine v_iadd C dX2_gather_98 ?_
          refine v_iload_n C dX2_gather_99 rfl 1 rfl ?_
          refine v_iload C dX2_gather_100 0 rfl ?_
          refine v_callVi C (c_Pa_reach l G ad (fun y0 y1 y2 y3 y4 => Wd y0 y1 y2 y3 y4) tb hT t_seen m_labels_3 m_reached_3 m_figures_5 t_parts (x2_3 + 1) x3_3 r_3 h) tb (hT t_seen m_labels_3 m_reached_3 m_figures_5 t_parts).1.1 rfl gX2_gather_X2_reach rfl kX2_reach ⟨rfl, rfl⟩ ⟨Nat.le_of_ble_eq_true rfl, Nat.le_of_ble_eq_true rfl⟩ rfl (Nat.le_of_ble_eq_true rfl) dX2_gather_102 (fun r_4 u h => ?_)
          obtain ⟨m_labels_4, m_reached_4, m_figures_6⟩ := u
          try dsimp only at h
          refine v_world (ws' := Wd t_seen m_labels_4 m_reached_4 m_figures_6 t_parts) rfl ?_
          refine v_istore C [(4, .int r_4), (3, .int x3_3), (2, .int x2_3), (5, .int x5_1), (0, .ref (ad tb)), (1, .int a1)] dX2_gather_105 (by decide) rfl ?_
          refine v_aload_n C dX2_gather_107 rfl 4 rfl ?_
          refine v_iload_n C dX2_gather_108 rfl 2 rfl ?_
          refine v_iload_n C dX2_gather_109 rfl 1 rfl ?_
          refine v_iconst C 1 dX2_gather_110 (by decide) ?_
          refine v_iadd C dX2_gather_111 ?_
          refine v_iload C dX2_gather_112 0 rfl ?_
          refine v_callVi C (c_Pa_reach l G ad (fun y0 y1 y2 y3 y4 => Wd y0 y1 y2 y3 y4) tb hT t_seen m_labels_4 m_reached_4 m_figures_6 t_parts x2_3 (x3_3 + 1) r_4 h) tb (hT t_seen m_labels_4 m_reached_4 m_figures_6 t_parts).1.1 rfl gX2_gather_X2_reach rfl kX2_reach ⟨rfl, rfl⟩ ⟨Nat.le_of_ble_eq_true rfl, Nat.le_of_ble_eq_true rfl⟩ rfl (Nat.le_of_ble_eq_true rfl) dX2_gather_114 (fun r_5 u h => ?_)
          obtain ⟨m_labels_5, m_reached_5, m_figures_7⟩ := u
          try dsimp only at h
          refine v_world (ws' := Wd t_seen m_labels_5 m_reached_5 m_figures_7 t_parts) rfl ?_
          refine v_istore C [(4, .int r_5), (3, .int x3_3), (2, .int x2_3), (5, .int x5_1), (0, .ref (ad tb)), (1, .int a1)] dX2_gather_117 (by decide) rfl ?_
          refine v_iinc C (x5_1 + 1) 3 [(5, .int (x5_1 + 1)), (4, .int r_5), (3, .int x3_3), (2, .int x2_3), (0, .ref (ad tb)), (1, .int a1)] dX2_gather_119 rfl rfl (by decide) rfl ?_
          refine v_goto C 28 dX2_gather_122 (by decide) ?_
          exact ih_1 (x5_1 + 1) r_5 x3_3 x2_3 m_labels_5 m_reached_5 m_figures_7 h
  obtain ⟨k_1, h⟩ := h
  exact hl_1 k_1 0 r_1 x3_1 x2_1 m_labels_1 m_reached_1 m_figures_2 h
-- QuarterMasks$Parts.look
def rmX2_look : Room := { frames := 4, cells := 0, slots := 0, locals := 110 }
theorem kX2_look : yX2_look.cls = RX2 ∧ yX2_look.cls ≠ "java/lang/invoke/MethodHandle" ∧ yX2_look.cls ≠ "java/lang/invoke/VarHandle" ∧ (parseMethodDescriptor yX2_look.desc).map (fun d => d.parameters.length) = some 1 := by decide +kernel
theorem mX2_look_w1 : Cond.fieldLink RX2 12 "QuarterMasks$Parts" "seen" "LQuarterMasks$Grid;" ∈ wsX2_look := List.mem_of_getElem? (i := 1) rfl
theorem iX2_look_2 : ∀ w ∈ wsX20, w ∈ wsX2_look := fun w h => List.mem_cons_of_mem _ (List.mem_append_left _ (List.mem_append_right _ h))
theorem mX2_look_w2 : Cond.fieldLink RX2 18 "QuarterMasks$Parts" "labels" "[I" ∈ wsX2_look := List.mem_of_getElem? (i := 2) rfl
theorem mX2_look_w3 : Cond.fieldLink RX2 28 "QuarterMasks$Parts" "parts" "I" ∈ wsX2_look := List.mem_of_getElem? (i := 3) rfl
def wl_Pa_look_35 (Q : IA → IA → IA → IA → Int32 → Prop) (m_rows_1 : IA) : Nat → Int32 → IA → IA → IA → Int32 → Prop
  | 0, _, _, _, _, _ => False
  | n + 1, x2_1, tlabels_1, treached_1, tfigures_1, tparts_1 => (256 ≤ x2_1 → (Q m_rows_1 tlabels_1 treached_1 tfigures_1 tparts_1)) ∧ (¬ 256 ≤ x2_1 → (vp_in x2_1 256 ∧ (jn (fun (tlabels_2 : IA) (treached_2 : IA) (tfigures_2 : IA) (tparts_2 : Int32) => (wl_Pa_look_35 Q m_rows_1 n) (x2_1 + 1) tlabels_2 treached_2 tfigures_2 tparts_2) (fun K_1 : IA → IA → IA → Int32 → Prop => ((tlabels_1 x2_1.toNatClampNeg) = (-1) → (wp_Gr_isDark m_rows_1 (jrem x2_1 16) (x2_1 / 16) (fun r_2 => (r_2 = 0 → (K_1 tlabels_1 treached_1 tfigures_1 tparts_1)) ∧ (¬ r_2 = 0 → ((128 ≤ tparts_1 → (K_1 tlabels_1 treached_1 tfigures_1 tparts_1)) ∧ (¬ 128 ≤ tparts_1 → (wp_Pa_gather m_rows_1 tlabels_1 treached_1 tfigures_1 tparts_1 x2_1 (fun m_labels_1 m_reached_1 m_figures_1 => ∀ v_parts_1 : Int32, v_parts_1 = (tparts_1 + 1) → (K_1 m_labels_1 m_reached_1 m_figures_1 v_parts_1))))))))) ∧ (¬ (tlabels_1 x2_1.toNatClampNeg) = (-1) → (K_1 tlabels_1 treached_1 tfigures_1 tparts_1))))))
def wp_Pa_look (t_seen : IA) (t_labels : IA) (t_reached : IA) (t_figures : IA) (t_parts : Int32) (o_rows : IA)  (Q : IA → IA → IA → IA → Int32 → Prop) : Prop :=
  wp_Gr_sameAs t_seen o_rows (fun r_1 => (r_1 = 0 → (wp_Gr_take t_seen o_rows (fun m_rows_1 => wp_Ar_fill t_labels 256 (-1) (fun m_g_1 => ∃ k_1 : Nat, wl_Pa_look_35 Q m_rows_1 k_1 0 m_g_1 t_reached t_figures 0)))) ∧ (¬ r_1 = 0 → (Q t_seen t_labels t_reached t_figures t_parts)))
set_option maxHeartbeats 4000000 in
theorem c_Pa_look (l : Launch) (G : GG) (ad : Nat → Nat) (Wd : IA → IA → IA → IA → Int32 → va_W) (tb ob : Nat) {o_rows : IA} (hT : pW G ad Wd tb) (hO : ∀ (t_seen : IA) (t_labels : IA) (t_reached : IA) (t_figures : IA) (t_parts : Int32), gR G ad (Wd t_seen t_labels t_reached t_figures t_parts) ob o_rows) (t_seen : IA) (t_labels : IA) (t_reached : IA) (t_figures : IA) (t_parts : Int32)  {Q : IA → IA → IA → IA → Int32 → Prop} (h : wp_Pa_look t_seen t_labels t_reached t_figures t_parts o_rows Q) : qm_MV l yX2_look wsX2_look rmX2_look G [.ref (ad tb), .ref (ad ob)] (Wd t_seen t_labels t_reached t_figures t_parts) (fun (u : IA × IA × IA × IA × Int32) => Q u.1 u.2.1 u.2.2.1 u.2.2.2.1 u.2.2.2.2) (fun (u : IA × IA × IA × IA × Int32) => Wd u.1 u.2.1 u.2.2.1 u.2.2.2.1 u.2.2.2.2) := by
  refine qm_mkV (cc := cX2_look) (maxL := 3) (by decide) rfl (Nat.le_of_ble_eq_true rfl) ?_
  intro X C hret
  replace C : qm_C G 3 X cX2_look wsX2_look RX2 := C
  refine v_lv (lv' := [(0, .ref (ad tb)), (1, .ref (ad ob))]) rfl ?_
  unfold wp_Pa_look at h
  refine v_aload_n C dX2_look_0 rfl 0 rfl ?_
  refine v_get C iX2_look_2 tb (hT t_seen t_labels t_reached t_figures t_parts).1.1 rfl 0 (by decide) mX2_look_w1 rfl rfl dX2_look_1 ?_
  refine v_aload_n C dX2_look_4 rfl 1 rfl ?_
  refine v_callVi C (c_Gr_sameAs l G ad (Wd t_seen t_labels t_reached t_figures t_parts) (tb + 1) ob (pR_seen (hT t_seen t_labels t_reached t_figures t_parts).1) (hO t_seen t_labels t_reached t_figures t_parts)  h) (tb + 1) (pR_seen (hT t_seen t_labels t_reached t_figures t_parts).1).1 rfl gX2_look_X1_sameAs rfl kX1_sameAs ⟨rfl, rfl⟩ ⟨Nat.le_of_ble_eq_true rfl, Nat.le_of_ble_eq_true rfl⟩ rfl (Nat.le_of_ble_eq_true rfl) dX2_look_5 (fun r_1 _ h => ?_)
  try dsimp only at h
  refine v_if_eq C 12 dX2_look_8 (by decide) (fun c_5 => ?_) (fun c_5 => ?_)
  · replace h := h.1 c_5
    refine v_aload_n C dX2_look_12 rfl 0 rfl ?_
    refine v_get C iX2_look_2 tb (hT t_seen t_labels t_reached t_figures t_parts).1.1 rfl 0 (by decide) mX2_look_w1 rfl rfl dX2_look_13 ?_
    refine v_aload_n C dX2_look_16 rfl 1 rfl ?_
    refine v_callVv C (c_Gr_take l G ad (fun y0 => Wd y0 t_labels t_reached t_figures t_parts) (tb + 1) ob (pW_seen hT t_labels t_reached t_figures t_parts) (fun y0 => (hO y0 t_labels t_reached t_figures t_parts)) t_seen h) (tb + 1) (pR_seen (hT t_seen t_labels t_reached t_figures t_parts).1).1 rfl gX2_look_X1_take rfl kX1_take ⟨rfl, rfl⟩ ⟨Nat.le_of_ble_eq_true rfl, Nat.le_of_ble_eq_true rfl⟩ rfl (Nat.le_of_ble_eq_true rfl) dX2_look_17 (fun m_rows_1 h => ?_)
    try dsimp only at h
    refine v_world (ws' := Wd m_rows_1 t_labels t_reached t_figures t_parts) rfl ?_
    refine v_aload_n C dX2_look_20 rfl 0 rfl ?_
    refine v_get C iX2_look_2 tb (hT m_rows_1 t_labels t_reached t_figures t_parts).1.1 rfl 1 (by decide) mX2_look_w2 rfl rfl dX2_look_21 ?_
    refine v_iconst C (-1) dX2_look_24 (by decide) ?_
    refine v_callSv C (c_Ar_fill l G ad (fun z0 => Wd m_rows_1 z0 t_reached t_figures t_parts) (tb + 3) 256 (fun z0 => ⟨(hT m_rows_1 z0 t_reached t_figures t_parts).1.2.2.2.1, fun _ => ((hT m_rows_1 z0 t_reached t_figures t_parts).2.2.1 _)⟩) t_labels (-1) h) gX2_look_J7_fill_53178 rfl kJ7_fill_53178 ⟨rfl, rfl⟩ ⟨Nat.le_of_ble_eq_true rfl, Nat.le_of_ble_eq_true rfl⟩ rfl (Nat.le_of_ble_eq_true rfl) dX2_look_25 (fun m_g_1 h => ?_)
    try dsimp only at h
    refine v_world (ws' := Wd m_rows_1 m_g_1 t_reached t_figures t_parts) rfl ?_
    refine v_aload_n C dX2_look_28 rfl 0 rfl ?_
    refine v_iconst C 0 dX2_look_29 (by decide) ?_
    refine v_put C iX2_look_2 tyX2_ok nmX2 tb (hT m_rows_1 m_g_1 t_reached t_figures t_parts).1.1 rfl 4 (by decide) mX2_look_w3 rfl rfl rfl rfl rfl (Nat.le_of_ble_eq_true rfl) (ws' := Wd m_rows_1 m_g_1 t_reached t_figures 0) ((hT m_rows_1 m_g_1 t_reached t_figures t_parts).2.2.2.2.2 _) dX2_look_30 ?_
    refine v_iconst C 0 dX2_look_33 (by decide) ?_
    refine v_istore_n C [(2, .int 0), (0, .ref (ad tb)), (1, .ref (ad ob))] dX2_look_34 rfl (by decide) rfl ?_
    have hl_1 : ∀ n_1 : Nat, ∀ (x2_1 : Int32) (tlabels_1 : IA) (treached_1 : IA) (tfigures_1 : IA) (tparts_1 : Int32), wl_Pa_look_35 Q m_rows_1 n_1 x2_1 tlabels_1 treached_1 tfigures_1 tparts_1 → qm_V l G rmX2_look 3 X (Wd m_rows_1 tlabels_1 treached_1 tfigures_1 tparts_1) [(2, .int x2_1), (0, .ref (ad tb)), (1, .ref (ad ob))] 35 [] := by
      intro n_1
      induction n_1 with
      | zero =>
        intro x2_1 tlabels_1 treached_1 tfigures_1 tparts_1 h
        exact False.elim h
      | succ n_1 ih_1 =>
        intro x2_1 tlabels_1 treached_1 tfigures_1 tparts_1 h
        rw [wl_Pa_look_35] at h
        refine v_iload_n C dX2_look_35 rfl 0 rfl ?_
        refine v_sipush C 256 dX2_look_36 (by decide) ?_
        refine v_icmp_ge C 101 dX2_look_39 (by decide) (fun c_4 => ?_) (fun c_4 => ?_)
        · replace h := h.1 c_4
          exact hret _ _ _ (m_rows_1, tlabels_1, treached_1, tfigures_1, tparts_1) h rfl dX2_look_101
        · replace h := h.2 c_4
          refine v_aload_n C dX2_look_42 rfl 1 rfl ?_
          refine v_get C iX2_look_2 tb (hT m_rows_1 tlabels_1 treached_1 tfigures_1 tparts_1).1.1 rfl 1 (by decide) mX2_look_w2 rfl rfl dX2_look_43 ?_
          refine v_iload_n C dX2_look_46 rfl 0 rfl ?_
          obtain ⟨hin_1, h⟩ := h
          refine v_iald C (tb + 3) (hT m_rows_1 tlabels_1 treached_1 tfigures_1 tparts_1).1.2.2.2.1 hin_1 dX2_look_47 ?_
          refine v_iconst C (-1) dX2_look_48 (by decide) ?_
          have hJ_1 : ∀ (tlabels_2 : IA) (treached_2 : IA) (tfigures_2 : IA) (tparts_2 : Int32), (fun (tlabels_2 : IA) (treached_2 : IA) (tfigures_2 : IA) (tparts_2 : Int32) => (wl_Pa_look_35 Q m_rows_1 n_1) (x2_1 + 1) tlabels_2 treached_2 tfigures_2 tparts_2) tlabels_2 treached_2 tfigures_2 tparts_2 → qm_V l G rmX2_look 3 X (Wd m_rows_1 tlabels_2 treached_2 tfigures_2 tparts_2) [(2, .int x2_1), (0, .ref (ad tb)), (1, .ref (ad ob))] 95 [] := by
            intro tlabels_2 treached_2 tfigures_2 tparts_2 h
            try dsimp only at h
            refine v_iinc C (x2_1 + 1) 0 [(2, .int (x2_1 + 1)), (0, .ref (ad tb)), (1, .ref (ad ob))] dX2_look_95 rfl rfl (by decide) rfl ?_
            refine v_goto C 35 dX2_look_98 (by decide) ?_
            exact ih_1 (x2_1 + 1) tlabels_2 treached_2 tfigures_2 tparts_2 h
          replace h := jn_use h
          try dsimp only at h
          refine v_icmp_ne C 95 dX2_look_49 (by decide) (fun c_3 => ?_) (fun c_3 => ?_)
          · replace h := h.2 c_3
            exact hJ_1 tlabels_1 treached_1 tfigures_1 tparts_1 h
          · replace h := h.1 c_3
            refine v_aload_n C dX2_look_52 rfl 1 rfl ?_
            refine v_get C iX2_look_2 tb (hT m_rows_1 tlabels_1 treached_1 tfigures_1 tparts_1).1.1 rfl 0 (by decide) mX2_look_w1 rfl rfl dX2_look_53 ?_
            refine v_iload_n C dX2_look_56 rfl 0 rfl ?_
            refine v_bipush C 16 dX2_look_57 (by decide) ?_
            refine v_irem C dX2_look_59 (by decide) ?_
            refine v_iload_n C dX2_look_60 rfl 0 rfl ?_
            refine v_bipush C 16 dX2_look_61 (by decide) ?_
            refine v_idiv C dX2_look_63 (by decide) ?_
            refine v_callVi C (c_Gr_isDark l G ad (Wd m_rows_1 tlabels_1 treached_1 tfigures_1 tparts_1) (tb + 1) (pR_seen (hT m_rows_1 tlabels_1 treached_1 tfigures_1 tparts_1).1)  (jrem x2_1 16) (x2_1 / 16) h) (tb + 1) (pR_seen (hT m_rows_1 tlabels_1 treached_1 tfigures_1 tparts_1).1).1 rfl gX2_look_X1_isDark rfl kX1_isDark ⟨rfl, rfl⟩ ⟨Nat.le_of_ble_eq_true rfl, Nat.le_of_ble_eq_true rfl⟩ rfl (Nat.le_of_ble_eq_true rfl) dX2_look_64 (fun r_2 _ h => ?_)
            try dsimp only at h
            refine v_if_eq C 95 dX2_look_67 (by decide) (fun c_2 => ?_) (fun c_2 => ?_)
            · replace h := h.1 c_2
              exact hJ_1 tlabels_1 treached_1 tfigures_1 tparts_1 h
            · replace h := h.2 c_2
              refine v_aload_n C dX2_look_70 rfl 1 rfl ?_
              refine v_get C iX2_look_2 tb (hT m_rows_1 tlabels_1 treached_1 tfigures_1 tparts_1).1.1 rfl 4 (by decide) mX2_look_w3 rfl rfl dX2_look_71 ?_
              refine v_sipush C 128 dX2_look_74 (by decide) ?_
              refine v_icmp_ge C 95 dX2_look_77 (by decide) (fun c_1 => ?_) (fun c_1 => ?_)
              · replace h := h.1 c_1
                exact hJ_1 tlabels_1 treached_1 tfigures_1 tparts_1 h
              · replace h := h.2 c_1
                refine v_aload_n C dX2_look_80 rfl 1 rfl ?_
                refine v_iload_n C dX2_look_81 rfl 0 rfl ?_
                refine v_callVv C (c_Pa_gather l G ad (fun y0 y1 y2 y3 y4 => Wd y0 y1 y2 y3 y4) tb hT m_rows_1 tlabels_1 treached_1 tfigures_1 tparts_1 x2_1 h) tb (hT m_rows_1 tlabels_1 treached_1 tfigures_1 tparts_1).1.1 rfl gX2_look_X2_gather rfl kX2_gather ⟨rfl, rfl⟩ ⟨Nat.le_of_ble_eq_true rfl, Nat.le_of_ble_eq_true rfl⟩ rfl (Nat.le_of_ble_eq_true rfl) dX2_look_82 (fun u h => ?_)
                obtain ⟨m_labels_1, m_reached_1, m_figures_1⟩ := u
                try dsimp only at h
                refine v_world (ws' := Wd m_rows_1 m_labels_1 m_reached_1 m_figures_1 tparts_1) rfl ?_
                refine v_aload_n C dX2_look_85 rfl 1 rfl ?_
                refine v_dup C dX2_look_86 rfl ?_
                refine v_get C iX2_look_2 tb (hT m_rows_1 m_labels_1 m_reached_1 m_figures_1 tparts_1).1.1 rfl 4 (by decide) mX2_look_w3 rfl rfl dX2_look_87 ?_
                refine v_iconst C 1 dX2_look_90 (by decide) ?_
                refine v_iadd C dX2_look_91 ?_
                refine v_topi (fun v_parts_1 ev_parts_1 => ?_)
                replace h := h v_parts_1 ev_parts_1
                refine v_put C iX2_look_2 tyX2_ok nmX2 tb (hT m_rows_1 m_labels_1 m_reached_1 m_figures_1 tparts_1).1.1 rfl 4 (by decide) mX2_look_w3 rfl rfl rfl rfl rfl (Nat.le_of_ble_eq_true rfl) (ws' := Wd m_rows_1 m_labels_1 m_reached_1 m_figures_1 v_parts_1) ((hT m_rows_1 m_labels_1 m_reached_1 m_figures_1 tparts_1).2.2.2.2.2 _) dX2_look_92 ?_
                exact hJ_1 m_labels_1 m_reached_1 m_figures_1 v_parts_1 h
    obtain ⟨k_1, h⟩ := h
    exact hl_1 k_1 0 m_g_1 t_reached t_figures 0 h
  · replace h := h.2 c_5
    exact hret _ _ _ (t_seen, t_labels, t_reached, t_figures, t_parts) h rfl dX2_look_11
-- QuarterMasks$Parts.rowOfPart
def rmX2_rowOfPart : Room := { frames := 2, cells := 0, slots := 0, locals := 62 }
theorem kX2_rowOfPart : yX2_rowOfPart.cls = RX2 ∧ yX2_rowOfPart.cls ≠ "java/lang/invoke/MethodHandle" ∧ yX2_rowOfPart.cls ≠ "java/lang/invoke/VarHandle" ∧ (parseMethodDescriptor yX2_rowOfPart.desc).map (fun d => d.parameters.length) = some 2 := by decide +kernel
def wl_Pa_rowOfPart_5 (t_labels : IA) (a1 : Int32) (a2 : Int32) (Q : Int32 → Prop) : Nat → Int32 → Int32 → Prop
  | 0, _, _ => False
  | n + 1, x4_1, x3_1 => (16 ≤ x4_1 → (Q x3_1)) ∧ (¬ 16 ≤ x4_1 → (wp_Pa_labelAt t_labels x4_1 a2 (fun r_1 => jn (fun (x3_2 : Int32) => (wl_Pa_rowOfPart_5 t_labels a1 a2 Q n) (x4_1 + 1) x3_2) (fun K_1 : Int32 → Prop => (r_1 = a1 → (∀ x3_3 : Int32, x3_3 = (x3_1 ||| (jshl 1 x4_1)) → (K_1 x3_3))) ∧ (¬ r_1 = a1 → (K_1 x3_1))))))
def wp_Pa_rowOfPart (t_labels : IA) (a1 : Int32) (a2 : Int32) (Q : Int32 → Prop) : Prop :=
  ∃ k_1 : Nat, wl_Pa_rowOfPart_5 t_labels a1 a2 Q k_1 0 0
set_option maxHeartbeats 4000000 in
theorem c_Pa_rowOfPart (l : Launch) (G : GG) (ad : Nat → Nat) (ws : va_W) (tb : Nat) {t_seen : IA} {t_labels : IA} {t_reached : IA} {t_figures : IA} {t_parts : Int32} (hT : pR G ad ws tb t_seen t_labels t_reached t_figures t_parts)  (a1 : Int32) (a2 : Int32) {Q : Int32 → Prop} (h : wp_Pa_rowOfPart t_labels a1 a2 Q) : qm_MI l yX2_rowOfPart wsX2_rowOfPart rmX2_rowOfPart G [.ref (ad tb), .int a1, .int a2] (ws) (fun (r : Int32) (_ : Unit) => Q r) (fun (_ : Unit) => ws) := by
  refine qm_mkI (cc := cX2_rowOfPart) (maxL := 5) (by decide) rfl (Nat.le_of_ble_eq_true rfl) ?_
  intro X C hret
  replace C : qm_C G 5 X cX2_rowOfPart wsX2_rowOfPart RX2 := C
  refine v_lv (lv' := [(0, .ref (ad tb)), (1, .int a1), (2, .int a2)]) rfl ?_
  unfold wp_Pa_rowOfPart at h
  refine v_iconst C 0 dX2_rowOfPart_0 (by decide) ?_
  refine v_istore_n C [(3, .int 0), (0, .ref (ad tb)), (1, .int a1), (2, .int a2)] dX2_rowOfPart_1 rfl (by decide) rfl ?_
  refine v_iconst C 0 dX2_rowOfPart_2 (by decide) ?_
  refine v_istore C [(4, .int 0), (3, .int 0), (0, .ref (ad tb)), (1, .int a1), (2, .int a2)] dX2_rowOfPart_3 (by decide) rfl ?_
  have hl_1 : ∀ n_1 : Nat, ∀ (x4_1 : Int32) (x3_1 : Int32), wl_Pa_rowOfPart_5 t_labels a1 a2 Q n_1 x4_1 x3_1 → qm_V l G rmX2_rowOfPart 5 X (ws) [(4, .int x4_1), (3, .int x3_1), (0, .ref (ad tb)), (1, .int a1), (2, .int a2)] 5 [] := by
    intro n_1
    induction n_1 with
    | zero =>
      intro x4_1 x3_1 h
      exact False.elim h
    | succ n_1 ih_1 =>
      intro x4_1 x3_1 h
      rw [wl_Pa_rowOfPart_5] at h
      refine v_iload C dX2_rowOfPart_5 0 rfl ?_
      refine v_bipush C 16 dX2_rowOfPart_7 (by decide) ?_
      refine v_icmp_ge C 36 dX2_rowOfPart_9 (by decide) (fun c_2 => ?_) (fun c_2 => ?_)
      · replace h := h.1 c_2
        refine v_iload_n C dX2_rowOfPart_36 rfl 1 rfl ?_
        exact hret _ _ _ x3_1 () h rfl dX2_rowOfPart_37
      · replace h := h.2 c_2
        refine v_aload_n C dX2_rowOfPart_12 rfl 2 rfl ?_
        refine v_iload C dX2_rowOfPart_13 0 rfl ?_
        refine v_iload_n C dX2_rowOfPart_15 rfl 4 rfl ?_
        refine v_callVi C (c_Pa_labelAt l G ad (ws) tb hT  x4_1 a2 h) tb hT.1 rfl gX2_rowOfPart_X2_labelAt rfl kX2_labelAt ⟨rfl, rfl⟩ ⟨Nat.le_of_ble_eq_true rfl, Nat.le_of_ble_eq_true rfl⟩ rfl (Nat.le_of_ble_eq_true rfl) dX2_rowOfPart_16 (fun r_1 _ h => ?_)
        try dsimp only at h
        refine v_iload_n C dX2_rowOfPart_19 rfl 3 rfl ?_
        have hJ_1 : ∀ (x3_2 : Int32), (fun (x3_2 : Int32) => (wl_Pa_rowOfPart_5 t_labels a1 a2 Q n_1) (x4_1 + 1) x3_2) x3_2 → qm_V l G rmX2_rowOfPart 5 X (ws) [(4, .int x4_1), (3, .int x3_2), (0, .ref (ad tb)), (1, .int a1), (2, .int a2)] 30 [] := by
          intro x3_2 h
          try dsimp only at h
          refine v_iinc C (x4_1 + 1) 0 [(4, .int (x4_1 + 1)), (3, .int x3_2), (0, .ref (ad tb)), (1, .int a1), (2, .int a2)] dX2_rowOfPart_30 rfl rfl (by decide) rfl ?_
          refine v_goto C 5 dX2_rowOfPart_33 (by decide) ?_
          exact ih_1 (x4_1 + 1) x3_2 h
        replace h := jn_use h
        try dsimp only at h
        refine v_icmp_ne C 30 dX2_rowOfPart_20 (by decide) (fun c_1 => ?_) (fun c_1 => ?_)
        · replace h := h.2 c_1
          exact hJ_1 x3_1 h
        · replace h := h.1 c_1
          refine v_iload_n C dX2_rowOfPart_23 rfl 1 rfl ?_
          refine v_iconst C 1 dX2_rowOfPart_24 (by decide) ?_
          refine v_iload C dX2_rowOfPart_25 0 rfl ?_
          refine v_ishl C dX2_rowOfPart_27 ?_
          refine v_ior C dX2_rowOfPart_28 ?_
          refine v_topi (fun x3_3 ex3_3 => ?_)
          replace h := h x3_3 ex3_3
          refine v_istore_n C [(3, .int x3_3), (4, .int x4_1), (0, .ref (ad tb)), (1, .int a1), (2, .int a2)] dX2_rowOfPart_29 rfl (by decide) rfl ?_
          refine v_perm [1, 0, 2, 3, 4] rfl ?_
          exact hJ_1 x3_3 h
  obtain ⟨k_1, h⟩ := h
  exact hl_1 k_1 0 0 h
-- QuarterMasks$Parts.figure
def rmX2_figure : Room := { frames := 2, cells := 0, slots := 0, locals := 61 }
theorem kX2_figure : yX2_figure.cls = RX2 ∧ yX2_figure.cls ≠ "java/lang/invoke/MethodHandle" ∧ yX2_figure.cls ≠ "java/lang/invoke/VarHandle" ∧ (parseMethodDescriptor yX2_figure.desc).map (fun d => d.parameters.length) = some 2 := by decide +kernel
theorem mX2_figure_w1 : Cond.fieldLink RX2 28 "QuarterMasks$Parts" "parts" "I" ∈ wsX2_figure := List.mem_of_getElem? (i := 1) rfl
theorem iX2_figure_2 : ∀ w ∈ wsX20, w ∈ wsX2_figure := fun w h => List.mem_cons_of_mem _ (List.mem_append_right _ h)
theorem mX2_figure_w4 : Cond.initialized RX5 ∈ wsX2_figure := List.mem_of_getElem? (i := 4) rfl
theorem mX2_figure_w3 : Cond.static yX5_within ∈ wsX2_figure := List.mem_of_getElem? (i := 3) rfl
theorem mX2_figure_w2 : Cond.fieldLink RX2 25 "QuarterMasks$Parts" "figures" "[I" ∈ wsX2_figure := List.mem_of_getElem? (i := 2) rfl
def wp_Pa_figure (t_figures : IA) (t_parts : Int32) (a1 : Int32) (a2 : Int32) (Q : Int32 → Prop) : Prop :=
  wp_Qm_within a1 t_parts (fun r_1 => (r_1 = 0 → (Q (-2))) ∧ (¬ r_1 = 0 → (wp_Qm_within a2 6 (fun r_2 => (r_2 = 0 → (Q (-2))) ∧ (¬ r_2 = 0 → (vp_in ((a1 * 6) + a2) 768 ∧ (Q (t_figures ((a1 * 6) + a2).toNatClampNeg))))))))
set_option maxHeartbeats 4000000 in
theorem c_Pa_figure (l : Launch) (G : GG) (ad : Nat → Nat) (ws : va_W) (tb : Nat) {t_seen : IA} {t_labels : IA} {t_reached : IA} {t_figures : IA} {t_parts : Int32} (hT : pR G ad ws tb t_seen t_labels t_reached t_figures t_parts)  (a1 : Int32) (a2 : Int32) {Q : Int32 → Prop} (h : wp_Pa_figure t_figures t_parts a1 a2 Q) : qm_MI l yX2_figure wsX2_figure rmX2_figure G [.ref (ad tb), .int a1, .int a2] (ws) (fun (r : Int32) (_ : Unit) => Q r) (fun (_ : Unit) => ws) := by
  refine qm_mkI (cc := cX2_figure) (maxL := 3) (by decide) rfl (Nat.le_of_ble_eq_true rfl) ?_
  intro X C hret
  replace C : qm_C G 3 X cX2_figure wsX2_figure RX2 := C
  refine v_lv (lv' := [(0, .ref (ad tb)), (1, .int a1), (2, .int a2)]) rfl ?_
  unfold wp_Pa_figure at h
  refine v_iload_n C dX2_figure_0 rfl 1 rfl ?_
  refine v_aload_n C dX2_figure_1 rfl 0 rfl ?_
  refine v_get C iX2_figure_2 tb hT.1 rfl 4 (by decide) mX2_figure_w1 rfl rfl dX2_figure_2 ?_
  refine v_callSNi C (c_Qm_within l G (ws) a1 t_parts h) gX2_figure_X5_within_n77 rfl (fun _ h => h.2.2.2.1) mX2_figure_w4 mX2_figure_w3 kX5_within ⟨rfl, rfl⟩ ⟨Nat.le_of_ble_eq_true rfl, Nat.le_of_ble_eq_true rfl⟩ rfl (Nat.le_of_ble_eq_true rfl) dX2_figure_5 (fun r_1 _ h => ?_)
  try dsimp only at h
  refine v_if_eq C 34 dX2_figure_8 (by decide) (fun c_2 => ?_) (fun c_2 => ?_)
  · replace h := h.1 c_2
    refine v_bipush C (-2) dX2_figure_34 (by decide) ?_
    exact hret _ _ _ (-2) () h rfl dX2_figure_36
  · replace h := h.2 c_2
    refine v_iload_n C dX2_figure_11 rfl 2 rfl ?_
    refine v_bipush C 6 dX2_figure_12 (by decide) ?_
    refine v_callSNi C (c_Qm_within l G (ws) a2 6 h) gX2_figure_X5_within_n77 rfl (fun _ h => h.2.2.2.1) mX2_figure_w4 mX2_figure_w3 kX5_within ⟨rfl, rfl⟩ ⟨Nat.le_of_ble_eq_true rfl, Nat.le_of_ble_eq_true rfl⟩ rfl (Nat.le_of_ble_eq_true rfl) dX2_figure_14 (fun r_2 _ h => ?_)
    try dsimp only at h
    refine v_if_eq C 34 dX2_figure_17 (by decide) (fun c_1 => ?_) (fun c_1 => ?_)
    · replace h := h.1 c_1
      refine v_bipush C (-2) dX2_figure_34 (by decide) ?_
      exact hret _ _ _ (-2) () h rfl dX2_figure_36
    · replace h := h.2 c_1
      refine v_aload_n C dX2_figure_20 rfl 0 rfl ?_
      refine v_get C iX2_figure_2 tb hT.1 rfl 3 (by decide) mX2_figure_w2 rfl rfl dX2_figure_21 ?_
      refine v_iload_n C dX2_figure_24 rfl 1 rfl ?_
      refine v_bipush C 6 dX2_figure_25 (by decide) ?_
      refine v_imul C dX2_figure_27 ?_
      refine v_iload_n C dX2_figure_28 rfl 2 rfl ?_
      refine v_iadd C dX2_figure_29 ?_
      obtain ⟨hin_1, h⟩ := h
      refine v_iald C (tb + 5) hT.2.2.2.2.2 hin_1 dX2_figure_30 ?_
      refine v_goto C 36 dX2_figure_31 (by decide) ?_
      exact hret _ _ _ (t_figures ((a1 * 6) + a2).toNatClampNeg) () h rfl dX2_figure_36
-- QuarterMasks$Parts.partsOffTheEdge
def rmX2_partsOffTheEdge : Room := { frames := 3, cells := 0, slots := 0, locals := 83 }
theorem kX2_partsOffTheEdge : yX2_partsOffTheEdge.cls = RX2 ∧ yX2_partsOffTheEdge.cls ≠ "java/lang/invoke/MethodHandle" ∧ yX2_partsOffTheEdge.cls ≠ "java/lang/invoke/VarHandle" ∧ (parseMethodDescriptor yX2_partsOffTheEdge.desc).map (fun d => d.parameters.length) = some 0 := by decide +kernel
theorem mX2_partsOffTheEdge_w1 : Cond.fieldLink RX2 28 "QuarterMasks$Parts" "parts" "I" ∈ wsX2_partsOffTheEdge := List.mem_of_getElem? (i := 1) rfl
theorem iX2_partsOffTheEdge_2 : ∀ w ∈ wsX20, w ∈ wsX2_partsOffTheEdge := fun w h => List.mem_cons_of_mem _ (List.mem_append_right _ h)
def wj_Pa_partsOffTheEdge_63 (x2_1 : Int32) (x1_1 : Int32) (Kh_1 : Int32 → Int32 → Prop) (t_1 : Int32) (t_2 : Int32) : Prop :=
  jn (fun (x1_2 : Int32) => Kh_1 (x2_1 + 1) x1_2) (fun K_1 : Int32 → Prop => (t_1 = 0 → (K_1 x1_1)) ∧ (¬ t_1 = 0 → ((t_2 = 0 → (K_1 x1_1)) ∧ (¬ t_2 = 0 → (K_1 (x1_1 + 1))))))
def wj_Pa_partsOffTheEdge_35 (t_figures : IA) (t_parts : Int32) (x2_1 : Int32) (x1_1 : Int32) (Kh_1 : Int32 → Int32 → Prop) (t_1 : Int32) : Prop :=
  wp_Pa_figure t_figures t_parts x2_1 4 (fun r_2 => jn (wj_Pa_partsOffTheEdge_63 x2_1 x1_1 Kh_1 t_1) (fun K_2 : Int32 → Prop => (15 ≤ r_2 → (K_2 0)) ∧ (¬ 15 ≤ r_2 → (wp_Pa_figure t_figures t_parts x2_1 5 (fun r_3 => (15 ≤ r_3 → (K_2 0)) ∧ (¬ 15 ≤ r_3 → (K_2 1)))))))
def wl_Pa_partsOffTheEdge_4 (t_figures : IA) (t_parts : Int32) (Q : Int32 → Prop) : Nat → Int32 → Int32 → Prop
  | 0, _, _ => False
  | n + 1, x2_1, x1_1 => (t_parts ≤ x2_1 → (Q x1_1)) ∧ (¬ t_parts ≤ x2_1 → (wp_Pa_figure t_figures t_parts x2_1 2 (fun r_1 => jn (wj_Pa_partsOffTheEdge_35 t_figures t_parts x2_1 x1_1 (wl_Pa_partsOffTheEdge_4 t_figures t_parts Q n)) (fun K_3 : Int32 → Prop => (r_1 ≤ 0 → (K_3 0)) ∧ (¬ r_1 ≤ 0 → (wp_Pa_figure t_figures t_parts x2_1 3 (fun r_4 => (r_4 ≤ 0 → (K_3 0)) ∧ (¬ r_4 ≤ 0 → (K_3 1)))))))))
def wp_Pa_partsOffTheEdge (t_figures : IA) (t_parts : Int32)  (Q : Int32 → Prop) : Prop :=
  ∃ k_1 : Nat, wl_Pa_partsOffTheEdge_4 t_figures t_parts Q k_1 0 0
set_option maxHeartbeats 4000000 in
theorem c_Pa_partsOffTheEdge (l : Launch) (G : GG) (ad : Nat → Nat) (ws : va_W) (tb : Nat) {t_seen : IA} {t_labels : IA} {t_reached : IA} {t_figures : IA} {t_parts : Int32} (hT : pR G ad ws tb t_seen t_labels t_reached t_figures t_parts)   {Q : Int32 → Prop} (h : wp_Pa_partsOffTheEdge t_figures t_parts Q) : qm_MI l yX2_partsOffTheEdge wsX2_partsOffTheEdge rmX2_partsOffTheEdge G [.ref (ad tb)] (ws) (fun (r : Int32) (_ : Unit) => Q r) (fun (_ : Unit) => ws) := by
  refine qm_mkI (cc := cX2_partsOffTheEdge) (maxL := 5) (by decide) rfl (Nat.le_of_ble_eq_true rfl) ?_
  intro X C hret
  replace C : qm_C G 5 X cX2_partsOffTheEdge wsX2_partsOffTheEdge RX2 := C
  refine v_lv (lv' := [(0, .ref (ad tb))]) rfl ?_
  unfold wp_Pa_partsOffTheEdge at h
  refine v_iconst C 0 dX2_partsOffTheEdge_0 (by decide) ?_
  refine v_istore_n C [(1, .int 0), (0, .ref (ad tb))] dX2_partsOffTheEdge_1 rfl (by decide) rfl ?_
  refine v_iconst C 0 dX2_partsOffTheEdge_2 (by decide) ?_
  refine v_istore_n C [(2, .int 0), (1, .int 0), (0, .ref (ad tb))] dX2_partsOffTheEdge_3 rfl (by decide) rfl ?_
  have hl_1 : ∀ n_1 : Nat, ∀ (x2_1 : Int32) (x1_1 : Int32), wl_Pa_partsOffTheEdge_4 t_figures t_parts Q n_1 x2_1 x1_1 → qm_V l G rmX2_partsOffTheEdge 5 X (ws) [(2, .int x2_1), (1, .int x1_1), (0, .ref (ad tb))] 4 [] := by
    intro n_1
    induction n_1 with
    | zero =>
      intro x2_1 x1_1 h
      exact False.elim h
    | succ n_1 ih_1 =>
      intro x2_1 x1_1 h
      rw [wl_Pa_partsOffTheEdge_4] at h
      refine v_iload_n C dX2_partsOffTheEdge_4 rfl 0 rfl ?_
      refine v_aload_n C dX2_partsOffTheEdge_5 rfl 2 rfl ?_
      refine v_get C iX2_partsOffTheEdge_2 tb hT.1 rfl 4 (by decide) mX2_partsOffTheEdge_w1 rfl rfl dX2_partsOffTheEdge_6 ?_
      refine v_icmp_ge C 83 dX2_partsOffTheEdge_9 (by decide) (fun c_7 => ?_) (fun c_7 => ?_)
      · replace h := h.1 c_7
        refine v_iload_n C dX2_partsOffTheEdge_83 rfl 1 rfl ?_
        exact hret _ _ _ x1_1 () h rfl dX2_partsOffTheEdge_84
      · replace h := h.2 c_7
        refine v_aload_n C dX2_partsOffTheEdge_12 rfl 2 rfl ?_
        refine v_iload_n C dX2_partsOffTheEdge_13 rfl 0 rfl ?_
        refine v_iconst C 2 dX2_partsOffTheEdge_14 (by decide) ?_
        refine v_callVi C (c_Pa_figure l G ad (ws) tb hT  x2_1 2 h) tb hT.1 rfl gX2_partsOffTheEdge_X2_figure rfl kX2_figure ⟨rfl, rfl⟩ ⟨Nat.le_of_ble_eq_true rfl, Nat.le_of_ble_eq_true rfl⟩ rfl (Nat.le_of_ble_eq_true rfl) dX2_partsOffTheEdge_15 (fun r_1 _ h => ?_)
        try dsimp only at h
        have hJ_3 : ∀ (t_1 : Int32), (wj_Pa_partsOffTheEdge_35 t_figures t_parts x2_1 x1_1 (wl_Pa_partsOffTheEdge_4 t_figures t_parts Q n_1)) t_1 → qm_V l G rmX2_partsOffTheEdge 5 X (ws) [(2, .int x2_1), (1, .int x1_1), (0, .ref (ad tb))] 35 [.int t_1] := by
          intro t_1 h
          unfold wj_Pa_partsOffTheEdge_35 at h
          refine v_istore_n C [(3, .int t_1), (2, .int x2_1), (1, .int x1_1), (0, .ref (ad tb))] dX2_partsOffTheEdge_35 rfl (by decide) rfl ?_
          refine v_aload_n C dX2_partsOffTheEdge_36 rfl 3 rfl ?_
          refine v_iload_n C dX2_partsOffTheEdge_37 rfl 1 rfl ?_
          refine v_iconst C 4 dX2_partsOffTheEdge_38 (by decide) ?_
          refine v_callVi C (c_Pa_figure l G ad (ws) tb hT  x2_1 4 h) tb hT.1 rfl gX2_partsOffTheEdge_X2_figure rfl kX2_figure ⟨rfl, rfl⟩ ⟨Nat.le_of_ble_eq_true rfl, Nat.le_of_ble_eq_true rfl⟩ rfl (Nat.le_of_ble_eq_true rfl) dX2_partsOffTheEdge_39 (fun r_2 _ h => ?_)
          try dsimp only at h
          refine v_bipush C 15 dX2_partsOffTheEdge_42 (by decide) ?_
          have hJ_2 : ∀ (t_2 : Int32), (wj_Pa_partsOffTheEdge_63 x2_1 x1_1 (wl_Pa_partsOffTheEdge_4 t_figures t_parts Q n_1) t_1) t_2 → qm_V l G rmX2_partsOffTheEdge 5 X (ws) [(3, .int t_1), (2, .int x2_1), (1, .int x1_1), (0, .ref (ad tb))] 63 [.int t_2] := by
            intro t_2 h
            unfold wj_Pa_partsOffTheEdge_63 at h
            refine v_istore C [(4, .int t_2), (3, .int t_1), (2, .int x2_1), (1, .int x1_1), (0, .ref (ad tb))] dX2_partsOffTheEdge_63 (by decide) rfl ?_
            refine v_iload_n C dX2_partsOffTheEdge_65 rfl 1 rfl ?_
            have hJ_1 : ∀ (x1_2 : Int32), (fun (x1_2 : Int32) => (wl_Pa_partsOffTheEdge_4 t_figures t_parts Q n_1) (x2_1 + 1) x1_2) x1_2 → qm_V l G rmX2_partsOffTheEdge 5 X (ws) [(4, .int t_2), (3, .int t_1), (2, .int x2_1), (1, .int x1_2), (0, .ref (ad tb))] 77 [] := by
              intro x1_2 h
              try dsimp only at h
              refine v_iinc C (x2_1 + 1) 2 [(2, .int (x2_1 + 1)), (4, .int t_2), (3, .int t_1), (1, .int x1_2), (0, .ref (ad tb))] dX2_partsOffTheEdge_77 rfl rfl (by decide) rfl ?_
              refine v_goto C 4 dX2_partsOffTheEdge_80 (by decide) ?_
              refine v_perm [0, 3, 4] rfl ?_
              exact ih_1 (x2_1 + 1) x1_2 h
            replace h := jn_use h
            try dsimp only at h
            refine v_if_eq C 77 dX2_partsOffTheEdge_66 (by decide) (fun c_2 => ?_) (fun c_2 => ?_)
            · replace h := h.1 c_2
              exact hJ_1 x1_1 h
            · replace h := h.2 c_2
              refine v_iload C dX2_partsOffTheEdge_69 0 rfl ?_
              refine v_if_eq C 77 dX2_partsOffTheEdge_71 (by decide) (fun c_1 => ?_) (fun c_1 => ?_)
              · replace h := h.1 c_1
                exact hJ_1 x1_1 h
              · replace h := h.2 c_1
                refine v_iinc C (x1_1 + 1) 3 [(1, .int (x1_1 + 1)), (4, .int t_2), (3, .int t_1), (2, .int x2_1), (0, .ref (ad tb))] dX2_partsOffTheEdge_74 rfl rfl (by decide) rfl ?_
                refine v_perm [1, 2, 3, 0, 4] rfl ?_
                exact hJ_1 (x1_1 + 1) h
          replace h := jn_use h
          try dsimp only at h
          refine v_icmp_ge C 62 dX2_partsOffTheEdge_44 (by decide) (fun c_4 => ?_) (fun c_4 => ?_)
          · replace h := h.1 c_4
            refine v_iconst C 0 dX2_partsOffTheEdge_62 (by decide) ?_
            exact hJ_2 0 h
          · replace h := h.2 c_4
            refine v_aload_n C dX2_partsOffTheEdge_47 rfl 3 rfl ?_
            refine v_iload_n C dX2_partsOffTheEdge_48 rfl 1 rfl ?_
            refine v_iconst C 5 dX2_partsOffTheEdge_49 (by decide) ?_
            refine v_callVi C (c_Pa_figure l G ad (ws) tb hT  x2_1 5 h) tb hT.1 rfl gX2_partsOffTheEdge_X2_figure rfl kX2_figure ⟨rfl, rfl⟩ ⟨Nat.le_of_ble_eq_true rfl, Nat.le_of_ble_eq_true rfl⟩ rfl (Nat.le_of_ble_eq_true rfl) dX2_partsOffTheEdge_50 (fun r_3 _ h => ?_)
            try dsimp only at h
            refine v_bipush C 15 dX2_partsOffTheEdge_53 (by decide) ?_
            refine v_icmp_ge C 62 dX2_partsOffTheEdge_55 (by decide) (fun c_3 => ?_) (fun c_3 => ?_)
            · replace h := h.1 c_3
              refine v_iconst C 0 dX2_partsOffTheEdge_62 (by decide) ?_
              exact hJ_2 0 h
            · replace h := h.2 c_3
              refine v_iconst C 1 dX2_partsOffTheEdge_58 (by decide) ?_
              refine v_goto C 63 dX2_partsOffTheEdge_59 (by decide) ?_
              exact hJ_2 1 h
        replace h := jn_use h
        try dsimp only at h
        refine v_if_le C 34 dX2_partsOffTheEdge_18 (by decide) (fun c_6 => ?_) (fun c_6 => ?_)
        · replace h := h.1 c_6
          refine v_iconst C 0 dX2_partsOffTheEdge_34 (by decide) ?_
          exact hJ_3 0 h
        · replace h := h.2 c_6
          refine v_aload_n C dX2_partsOffTheEdge_21 rfl 2 rfl ?_
          refine v_iload_n C dX2_partsOffTheEdge_22 rfl 0 rfl ?_
          refine v_iconst C 3 dX2_partsOffTheEdge_23 (by decide) ?_
          refine v_callVi C (c_Pa_figure l G ad (ws) tb hT  x2_1 3 h) tb hT.1 rfl gX2_partsOffTheEdge_X2_figure rfl kX2_figure ⟨rfl, rfl⟩ ⟨Nat.le_of_ble_eq_true rfl, Nat.le_of_ble_eq_true rfl⟩ rfl (Nat.le_of_ble_eq_true rfl) dX2_partsOffTheEdge_24 (fun r_4 _ h => ?_)
          try dsimp only at h
          refine v_if_le C 34 dX2_partsOffTheEdge_27 (by decide) (fun c_5 => ?_) (fun c_5 => ?_)
          · replace h := h.1 c_5
            refine v_iconst C 0 dX2_partsOffTheEdge_34 (by decide) ?_
            exact hJ_3 0 h
          · replace h := h.2 c_5
            refine v_iconst C 1 dX2_partsOffTheEdge_30 (by decide) ?_
            refine v_goto C 35 dX2_partsOffTheEdge_31 (by decide) ?_
            exact hJ_3 1 h
  obtain ⟨k_1, h⟩ := h
  exact hl_1 k_1 0 0 h
-- QuarterMasks$Sheet.narrowed
def rmX3_narrowed : Room := { frames := 1, cells := 0, slots := 0, locals := 40 }
theorem kX3_narrowed : yX3_narrowed.cls = RX3 ∧ yX3_narrowed.cls ≠ "java/lang/invoke/MethodHandle" ∧ yX3_narrowed.cls ≠ "java/lang/invoke/VarHandle" ∧ (parseMethodDescriptor yX3_narrowed.desc).map (fun d => d.parameters.length) = some 1 := by decide +kernel
theorem mX3_narrowed_w1 : Cond.fieldLink RX3 19 "QuarterMasks$Sheet" "form" "I" ∈ wsX3_narrowed := List.mem_of_getElem? (i := 1) rfl
theorem iX3_narrowed_3 : ∀ w ∈ wsX30, w ∈ wsX3_narrowed := fun w h => List.mem_cons_of_mem _ (List.mem_append_right _ h)
def wp_Sh_narrowed (t_form : Int32) (a1 : Int32) (Q : Int32 → Prop) : Prop :=
  (t_form = 0 → (Q (jbyte a1))) ∧ (¬ t_form = 0 → ((t_form = 1 → (Q (jshort a1))) ∧ (¬ t_form = 1 → (Q a1))))
set_option maxHeartbeats 4000000 in
theorem c_Sh_narrowed (l : Launch) (G : GG) (ad : Nat → Nat) (ws : va_W) (tb : Nat) {t_items : IA} {t_lost : Int32} {t_form : Int32} {t_size : Int32} (hT : sR G ad ws tb t_items t_lost t_form t_size)  (a1 : Int32) {Q : Int32 → Prop} (h : wp_Sh_narrowed t_form a1 Q) : qm_MI l yX3_narrowed wsX3_narrowed rmX3_narrowed G [.ref (ad tb), .int a1] (ws) (fun (r : Int32) (_ : Unit) => Q r) (fun (_ : Unit) => ws) := by
  refine qm_mkI (cc := cX3_narrowed) (maxL := 2) (by decide) rfl (Nat.le_of_ble_eq_true rfl) ?_
  intro X C hret
  replace C : qm_C G 2 X cX3_narrowed wsX3_narrowed RX3 := C
  refine v_lv (lv' := [(0, .ref (ad tb)), (1, .int a1)]) rfl ?_
  unfold wp_Sh_narrowed at h
  refine v_aload_n C dX3_narrowed_0 rfl 0 rfl ?_
  refine v_get C iX3_narrowed_3 tb hT.1 rfl 2 (by decide) mX3_narrowed_w1 rfl rfl dX3_narrowed_1 ?_
  refine v_if_ne C 10 dX3_narrowed_4 (by decide) (fun c_2 => ?_) (fun c_2 => ?_)
  · replace h := h.2 c_2
    refine v_aload_n C dX3_narrowed_10 rfl 0 rfl ?_
    refine v_get C iX3_narrowed_3 tb hT.1 rfl 2 (by decide) mX3_narrowed_w1 rfl rfl dX3_narrowed_11 ?_
    refine v_iconst C 1 dX3_narrowed_14 (by decide) ?_
    refine v_icmp_ne C 23 dX3_narrowed_15 (by decide) (fun c_1 => ?_) (fun c_1 => ?_)
    · replace h := h.2 c_1
      refine v_iload_n C dX3_narrowed_23 rfl 1 rfl ?_
      exact hret _ _ _ a1 () h rfl dX3_narrowed_24
    · replace h := h.1 c_1
      refine v_iload_n C dX3_narrowed_18 rfl 1 rfl ?_
      refine v_i2s C dX3_narrowed_19 ?_
      refine v_goto C 24 dX3_narrowed_20 (by decide) ?_
      exact hret _ _ _ (jshort a1) () h rfl dX3_narrowed_24
  · replace h := h.1 c_2
    refine v_iload_n C dX3_narrowed_7 rfl 1 rfl ?_
    refine v_i2b C dX3_narrowed_8 ?_
    exact hret _ _ _ (jbyte a1) () h rfl dX3_narrowed_9
-- QuarterMasks$Sheet.begin
def rmX3_begin : Room := { frames := 2, cells := 0, slots := 0, locals := 63 }
theorem kX3_begin : yX3_begin.cls = RX3 ∧ yX3_begin.cls ≠ "java/lang/invoke/MethodHandle" ∧ yX3_begin.cls ≠ "java/lang/invoke/VarHandle" ∧ (parseMethodDescriptor yX3_begin.desc).map (fun d => d.parameters.length) = some 2 := by decide +kernel
theorem mX3_begin_w1 : Cond.fieldLink RX3 15 "QuarterMasks$Sheet" "lost" "Z" ∈ wsX3_begin := List.mem_of_getElem? (i := 1) rfl
theorem iX3_begin_3 : ∀ w ∈ wsX30, w ∈ wsX3_begin := fun w h => List.mem_cons_of_mem _ (List.mem_append_right _ h)
theorem mX3_begin_w2 : Cond.fieldLink RX3 19 "QuarterMasks$Sheet" "form" "I" ∈ wsX3_begin := List.mem_of_getElem? (i := 2) rfl
theorem mX3_begin_w3 : Cond.fieldLink RX3 23 "QuarterMasks$Sheet" "size" "I" ∈ wsX3_begin := List.mem_of_getElem? (i := 3) rfl
theorem mX3_begin_w4 : Cond.fieldLink RX3 9 "QuarterMasks$Sheet" "items" "[I" ∈ wsX3_begin := List.mem_of_getElem? (i := 4) rfl
def wp_Sh_begin (t_items : IA) (a1 : Int32) (a2 : Int32) (Q : IA → Int32 → Int32 → Int32 → Prop) : Prop :=
  wp_Ar_fill t_items 60 0 (fun m_g_1 => Q m_g_1 0 a1 a2)
set_option maxHeartbeats 4000000 in
theorem c_Sh_begin (l : Launch) (G : GG) (ad : Nat → Nat) (Wd : IA → Int32 → Int32 → Int32 → va_W) (tb : Nat)  (hT : sW G ad Wd tb) (t_items : IA) (t_lost : Int32) (t_form : Int32) (t_size : Int32) (a1 : Int32) (a2 : Int32) {Q : IA → Int32 → Int32 → Int32 → Prop} (h : wp_Sh_begin t_items a1 a2 Q) : qm_MV l yX3_begin wsX3_begin rmX3_begin G [.ref (ad tb), .int a1, .int a2] (Wd t_items t_lost t_form t_size) (fun (u : IA × Int32 × Int32 × Int32) => Q u.1 u.2.1 u.2.2.1 u.2.2.2) (fun (u : IA × Int32 × Int32 × Int32) => Wd u.1 u.2.1 u.2.2.1 u.2.2.2) := by
  refine qm_mkV (cc := cX3_begin) (maxL := 3) (by decide) rfl (Nat.le_of_ble_eq_true rfl) ?_
  intro X C hret
  replace C : qm_C G 3 X cX3_begin wsX3_begin RX3 := C
  refine v_lv (lv' := [(0, .ref (ad tb)), (1, .int a1), (2, .int a2)]) rfl ?_
  unfold wp_Sh_begin at h
  refine v_aload_n C dX3_begin_0 rfl 0 rfl ?_
  refine v_iconst C 0 dX3_begin_1 (by decide) ?_
  refine v_put C iX3_begin_3 tyX3_ok nmX3 tb (hT t_items t_lost t_form t_size).1.1 rfl 1 (by decide) mX3_begin_w1 rfl rfl rfl rfl rfl (Nat.le_of_ble_eq_true rfl) (ws' := Wd t_items 0 t_form t_size) ((hT t_items t_lost t_form t_size).2.2.1 _) dX3_begin_2 ?_
  refine v_aload_n C dX3_begin_5 rfl 0 rfl ?_
  refine v_iload_n C dX3_begin_6 rfl 1 rfl ?_
  refine v_put C iX3_begin_3 tyX3_ok nmX3 tb (hT t_items 0 t_form t_size).1.1 rfl 2 (by decide) mX3_begin_w2 rfl rfl rfl rfl rfl (Nat.le_of_ble_eq_true rfl) (ws' := Wd t_items 0 a1 t_size) ((hT t_items 0 t_form t_size).2.2.2.1 _) dX3_begin_7 ?_
  refine v_aload_n C dX3_begin_10 rfl 0 rfl ?_
  refine v_iload_n C dX3_begin_11 rfl 2 rfl ?_
  refine v_put C iX3_begin_3 tyX3_ok nmX3 tb (hT t_items 0 a1 t_size).1.1 rfl 3 (by decide) mX3_begin_w3 rfl rfl rfl rfl rfl (Nat.le_of_ble_eq_true rfl) (ws' := Wd t_items 0 a1 a2) ((hT t_items 0 a1 t_size).2.2.2.2 _) dX3_begin_12 ?_
  refine v_aload_n C dX3_begin_15 rfl 0 rfl ?_
  refine v_get C iX3_begin_3 tb (hT t_items 0 a1 a2).1.1 rfl 0 (by decide) mX3_begin_w4 rfl rfl dX3_begin_16 ?_
  refine v_iconst C 0 dX3_begin_19 (by decide) ?_
  refine v_callSv C (c_Ar_fill l G ad (fun z0 => Wd z0 0 a1 a2) (tb + 1) 60 (fun z0 => ⟨(hT z0 0 a1 a2).1.2, fun _ => ((hT z0 0 a1 a2).2.1 _)⟩) t_items 0 h) gX3_begin_J7_fill_53178 rfl kJ7_fill_53178 ⟨rfl, rfl⟩ ⟨Nat.le_of_ble_eq_true rfl, Nat.le_of_ble_eq_true rfl⟩ rfl (Nat.le_of_ble_eq_true rfl) dX3_begin_20 (fun m_g_1 h => ?_)
  try dsimp only at h
  refine v_world (ws' := Wd m_g_1 0 a1 a2) rfl ?_
  exact hret _ _ _ (m_g_1, 0, a1, a2) h rfl dX3_begin_23
-- QuarterMasks$Sheet.item
def rmX3_item : Room := { frames := 2, cells := 0, slots := 0, locals := 61 }
theorem kX3_item : yX3_item.cls = RX3 ∧ yX3_item.cls ≠ "java/lang/invoke/MethodHandle" ∧ yX3_item.cls ≠ "java/lang/invoke/VarHandle" ∧ (parseMethodDescriptor yX3_item.desc).map (fun d => d.parameters.length) = some 1 := by decide +kernel
theorem mX3_item_w1 : Cond.fieldLink RX3 23 "QuarterMasks$Sheet" "size" "I" ∈ wsX3_item := List.mem_of_getElem? (i := 1) rfl
theorem iX3_item_3 : ∀ w ∈ wsX30, w ∈ wsX3_item := fun w h => List.mem_cons_of_mem _ (List.mem_append_right _ h)
theorem mX3_item_w4 : Cond.initialized RX5 ∈ wsX3_item := List.mem_of_getElem? (i := 4) rfl
theorem mX3_item_w3 : Cond.static yX5_within ∈ wsX3_item := List.mem_of_getElem? (i := 3) rfl
theorem mX3_item_w2 : Cond.fieldLink RX3 9 "QuarterMasks$Sheet" "items" "[I" ∈ wsX3_item := List.mem_of_getElem? (i := 2) rfl
def wp_Sh_item (t_items : IA) (t_size : Int32) (a1 : Int32) (Q : Int32 → Prop) : Prop :=
  wp_Qm_within a1 t_size (fun r_1 => (r_1 = 0 → (Q 0)) ∧ (¬ r_1 = 0 → (wp_Qm_within a1 60 (fun r_2 => (r_2 = 0 → (Q 0)) ∧ (¬ r_2 = 0 → (vp_in a1 60 ∧ (Q (t_items a1.toNatClampNeg))))))))
set_option maxHeartbeats 4000000 in
theorem c_Sh_item (l : Launch) (G : GG) (ad : Nat → Nat) (ws : va_W) (tb : Nat) {t_items : IA} {t_lost : Int32} {t_form : Int32} {t_size : Int32} (hT : sR G ad ws tb t_items t_lost t_form t_size)  (a1 : Int32) {Q : Int32 → Prop} (h : wp_Sh_item t_items t_size a1 Q) : qm_MI l yX3_item wsX3_item rmX3_item G [.ref (ad tb), .int a1] (ws) (fun (r : Int32) (_ : Unit) => Q r) (fun (_ : Unit) => ws) := by
  refine qm_mkI (cc := cX3_item) (maxL := 2) (by decide) rfl (Nat.le_of_ble_eq_true rfl) ?_
  intro X C hret
  replace C : qm_C G 2 X cX3_item wsX3_item RX3 := C
  refine v_lv (lv' := [(0, .ref (ad tb)), (1, .int a1)]) rfl ?_
  unfold wp_Sh_item at h
  refine v_iload_n C dX3_item_0 rfl 1 rfl ?_
  refine v_aload_n C dX3_item_1 rfl 0 rfl ?_
  refine v_get C iX3_item_3 tb hT.1 rfl 3 (by decide) mX3_item_w1 rfl rfl dX3_item_2 ?_
  refine v_callSNi C (c_Qm_within l G (ws) a1 t_size h) gX3_item_X5_within_n32 rfl (fun _ h => h.2.1) mX3_item_w4 mX3_item_w3 kX5_within ⟨rfl, rfl⟩ ⟨Nat.le_of_ble_eq_true rfl, Nat.le_of_ble_eq_true rfl⟩ rfl (Nat.le_of_ble_eq_true rfl) dX3_item_5 (fun r_1 _ h => ?_)
  try dsimp only at h
  refine v_if_eq C 29 dX3_item_8 (by decide) (fun c_2 => ?_) (fun c_2 => ?_)
  · replace h := h.1 c_2
    refine v_iconst C 0 dX3_item_29 (by decide) ?_
    exact hret _ _ _ 0 () h rfl dX3_item_30
  · replace h := h.2 c_2
    refine v_iload_n C dX3_item_11 rfl 1 rfl ?_
    refine v_bipush C 60 dX3_item_12 (by decide) ?_
    refine v_callSNi C (c_Qm_within l G (ws) a1 60 h) gX3_item_X5_within_n32 rfl (fun _ h => h.2.1) mX3_item_w4 mX3_item_w3 kX5_within ⟨rfl, rfl⟩ ⟨Nat.le_of_ble_eq_true rfl, Nat.le_of_ble_eq_true rfl⟩ rfl (Nat.le_of_ble_eq_true rfl) dX3_item_14 (fun r_2 _ h => ?_)
    try dsimp only at h
    refine v_if_eq C 29 dX3_item_17 (by decide) (fun c_1 => ?_) (fun c_1 => ?_)
    · replace h := h.1 c_1
      refine v_iconst C 0 dX3_item_29 (by decide) ?_
      exact hret _ _ _ 0 () h rfl dX3_item_30
    · replace h := h.2 c_1
      refine v_aload_n C dX3_item_20 rfl 0 rfl ?_
      refine v_get C iX3_item_3 tb hT.1 rfl 0 (by decide) mX3_item_w2 rfl rfl dX3_item_21 ?_
      refine v_iload_n C dX3_item_24 rfl 1 rfl ?_
      obtain ⟨hin_1, h⟩ := h
      refine v_iald C (tb + 1) hT.2 hin_1 dX3_item_25 ?_
      refine v_goto C 30 dX3_item_26 (by decide) ?_
      exact hret _ _ _ (t_items a1.toNatClampNeg) () h rfl dX3_item_30
-- QuarterMasks$Sheet.setItem
def rmX3_setItem : Room := { frames := 2, cells := 0, slots := 0, locals := 61 }
theorem kX3_setItem : yX3_setItem.cls = RX3 ∧ yX3_setItem.cls ≠ "java/lang/invoke/MethodHandle" ∧ yX3_setItem.cls ≠ "java/lang/invoke/VarHandle" ∧ (parseMethodDescriptor yX3_setItem.desc).map (fun d => d.parameters.length) = some 2 := by decide +kernel
theorem mX3_setItem_w1 : Cond.fieldLink RX3 23 "QuarterMasks$Sheet" "size" "I" ∈ wsX3_setItem := List.mem_of_getElem? (i := 1) rfl
theorem iX3_setItem_3 : ∀ w ∈ wsX30, w ∈ wsX3_setItem := fun w h => List.mem_cons_of_mem _ (List.mem_append_right _ h)
theorem mX3_setItem_w4 : Cond.initialized RX5 ∈ wsX3_setItem := List.mem_of_getElem? (i := 4) rfl
theorem mX3_setItem_w3 : Cond.static yX5_within ∈ wsX3_setItem := List.mem_of_getElem? (i := 3) rfl
theorem mX3_setItem_w2 : Cond.fieldLink RX3 9 "QuarterMasks$Sheet" "items" "[I" ∈ wsX3_setItem := List.mem_of_getElem? (i := 2) rfl
def wp_Sh_setItem (t_items : IA) (t_form : Int32) (t_size : Int32) (a1 : Int32) (a2 : Int32) (Q : IA → Prop) : Prop :=
  wp_Qm_within a1 t_size (fun r_1 => (r_1 = 0 → (Q t_items)) ∧ (¬ r_1 = 0 → (wp_Qm_within a1 60 (fun r_2 => (r_2 = 0 → (Q t_items)) ∧ (¬ r_2 = 0 → (wp_Sh_narrowed t_form a2 (fun r_3 => vp_in a1 60 ∧ (∀ f_items_1 : IA, f_items_1 = upd t_items a1.toNatClampNeg r_3 → (Q f_items_1)))))))))
set_option maxHeartbeats 4000000 in
theorem c_Sh_setItem (l : Launch) (G : GG) (ad : Nat → Nat) (Wd : IA → Int32 → Int32 → Int32 → va_W) (tb : Nat)  (hT : sW G ad Wd tb) (t_items : IA) (t_lost : Int32) (t_form : Int32) (t_size : Int32) (a1 : Int32) (a2 : Int32) {Q : IA → Prop} (h : wp_Sh_setItem t_items t_form t_size a1 a2 Q) : qm_MV l yX3_setItem wsX3_setItem rmX3_setItem G [.ref (ad tb), .int a1, .int a2] (Wd t_items t_lost t_form t_size) (fun (u : IA) => Q u) (fun (u : IA) => Wd u t_lost t_form t_size) := by
  refine qm_mkV (cc := cX3_setItem) (maxL := 3) (by decide) rfl (Nat.le_of_ble_eq_true rfl) ?_
  intro X C hret
  replace C : qm_C G 3 X cX3_setItem wsX3_setItem RX3 := C
  refine v_lv (lv' := [(0, .ref (ad tb)), (1, .int a1), (2, .int a2)]) rfl ?_
  unfold wp_Sh_setItem at h
  refine v_iload_n C dX3_setItem_0 rfl 1 rfl ?_
  refine v_aload_n C dX3_setItem_1 rfl 0 rfl ?_
  refine v_get C iX3_setItem_3 tb (hT t_items t_lost t_form t_size).1.1 rfl 3 (by decide) mX3_setItem_w1 rfl rfl dX3_setItem_2 ?_
  refine v_callSNi C (c_Qm_within l G (Wd t_items t_lost t_form t_size) a1 t_size h) gX3_setItem_X5_within_n32 rfl (fun _ h => h.2.1) mX3_setItem_w4 mX3_setItem_w3 kX5_within ⟨rfl, rfl⟩ ⟨Nat.le_of_ble_eq_true rfl, Nat.le_of_ble_eq_true rfl⟩ rfl (Nat.le_of_ble_eq_true rfl) dX3_setItem_5 (fun r_1 _ h => ?_)
  try dsimp only at h
  refine v_if_eq C 31 dX3_setItem_8 (by decide) (fun c_2 => ?_) (fun c_2 => ?_)
  · replace h := h.1 c_2
    exact hret _ _ _ t_items h rfl dX3_setItem_31
  · replace h := h.2 c_2
    refine v_iload_n C dX3_setItem_11 rfl 1 rfl ?_
    refine v_bipush C 60 dX3_setItem_12 (by decide) ?_
    refine v_callSNi C (c_Qm_within l G (Wd t_items t_lost t_form t_size) a1 60 h) gX3_setItem_X5_within_n32 rfl (fun _ h => h.2.1) mX3_setItem_w4 mX3_setItem_w3 kX5_within ⟨rfl, rfl⟩ ⟨Nat.le_of_ble_eq_true rfl, Nat.le_of_ble_eq_true rfl⟩ rfl (Nat.le_of_ble_eq_true rfl) dX3_setItem_14 (fun r_2 _ h => ?_)
    try dsimp only at h
    refine v_if_eq C 31 dX3_setItem_17 (by decide) (fun c_1 => ?_) (fun c_1 => ?_)
    · replace h := h.1 c_1
      exact hret _ _ _ t_items h rfl dX3_setItem_31
    · replace h := h.2 c_1
      refine v_aload_n C dX3_setItem_20 rfl 0 rfl ?_
      refine v_get C iX3_setItem_3 tb (hT t_items t_lost t_form t_size).1.1 rfl 0 (by decide) mX3_setItem_w2 rfl rfl dX3_setItem_21 ?_
      refine v_iload_n C dX3_setItem_24 rfl 1 rfl ?_
      refine v_aload_n C dX3_setItem_25 rfl 0 rfl ?_
      refine v_iload_n C dX3_setItem_26 rfl 2 rfl ?_
      refine v_callVi C (c_Sh_narrowed l G ad (Wd t_items t_lost t_form t_size) tb (hT t_items t_lost t_form t_size).1  a2 h) tb (hT t_items t_lost t_form t_size).1.1 rfl gX3_setItem_X3_narrowed rfl kX3_narrowed ⟨rfl, rfl⟩ ⟨Nat.le_of_ble_eq_true rfl, Nat.le_of_ble_eq_true rfl⟩ rfl (Nat.le_of_ble_eq_true rfl) dX3_setItem_27 (fun r_3 _ h => ?_)
      try dsimp only at h
      obtain ⟨hin_1, h⟩ := h
      obtain ⟨f_items_1, ef_items_1⟩ : ∃ y : IA, y = upd t_items a1.toNatClampNeg r_3 := ⟨_, rfl⟩
      replace h := h f_items_1 ef_items_1
      refine v_iast C (tb + 1) (hT t_items t_lost t_form t_size).1.2 (ws' := Wd f_items_1 t_lost t_form t_size) (by subst ef_items_1; exact ((hT t_items t_lost t_form t_size).2.1 _)) hin_1 dX3_setItem_30 ?_
      exact hret _ _ _ f_items_1 h rfl dX3_setItem_31
-- QuarterMasks$Sheet.hasItems
def rmX3_hasItems : Room := { frames := 1, cells := 0, slots := 0, locals := 40 }
theorem kX3_hasItems : yX3_hasItems.cls = RX3 ∧ yX3_hasItems.cls ≠ "java/lang/invoke/MethodHandle" ∧ yX3_hasItems.cls ≠ "java/lang/invoke/VarHandle" ∧ (parseMethodDescriptor yX3_hasItems.desc).map (fun d => d.parameters.length) = some 2 := by decide +kernel
theorem mX3_hasItems_w1 : Cond.fieldLink RX3 23 "QuarterMasks$Sheet" "size" "I" ∈ wsX3_hasItems := List.mem_of_getElem? (i := 1) rfl
theorem iX3_hasItems_3 : ∀ w ∈ wsX30, w ∈ wsX3_hasItems := fun w h => List.mem_cons_of_mem _ (List.mem_append_right _ h)
def wp_Sh_hasItems (t_size : Int32) (a1 : Int32) (a2 : Int32) (Q : Int32 → Prop) : Prop :=
  (a1 < 0 → (Q 0)) ∧ (¬ a1 < 0 → ((a2 < 0 → (Q 0)) ∧ (¬ a2 < 0 → ((t_size < a1 → (Q 0)) ∧ (¬ t_size < a1 → (((t_size - a1) < a2 → (Q 0)) ∧ (¬ (t_size - a1) < a2 → (Q 1))))))))
set_option maxHeartbeats 4000000 in
theorem c_Sh_hasItems (l : Launch) (G : GG) (ad : Nat → Nat) (ws : va_W) (tb : Nat) {t_items : IA} {t_lost : Int32} {t_form : Int32} {t_size : Int32} (hT : sR G ad ws tb t_items t_lost t_form t_size)  (a1 : Int32) (a2 : Int32) {Q : Int32 → Prop} (h : wp_Sh_hasItems t_size a1 a2 Q) : qm_MI l yX3_hasItems wsX3_hasItems rmX3_hasItems G [.ref (ad tb), .int a1, .int a2] (ws) (fun (r : Int32) (_ : Unit) => Q r) (fun (_ : Unit) => ws) := by
  refine qm_mkZ (cc := cX3_hasItems) (maxL := 3) (by decide) rfl (Nat.le_of_ble_eq_true rfl) ?_
  intro X C hret
  replace C : qm_C G 3 X cX3_hasItems wsX3_hasItems RX3 := C
  refine v_lv (lv' := [(0, .ref (ad tb)), (1, .int a1), (2, .int a2)]) rfl ?_
  unfold wp_Sh_hasItems at h
  refine v_iload_n C dX3_hasItems_0 rfl 1 rfl ?_
  refine v_if_lt C 30 dX3_hasItems_1 (by decide) (fun c_4 => ?_) (fun c_4 => ?_)
  · replace h := h.1 c_4
    refine v_iconst C 0 dX3_hasItems_30 (by decide) ?_
    exact hret _ _ _ 0 () h rfl rfl dX3_hasItems_31
  · replace h := h.2 c_4
    refine v_iload_n C dX3_hasItems_4 rfl 2 rfl ?_
    refine v_if_lt C 30 dX3_hasItems_5 (by decide) (fun c_3 => ?_) (fun c_3 => ?_)
    · replace h := h.1 c_3
      refine v_iconst C 0 dX3_hasItems_30 (by decide) ?_
      exact hret _ _ _ 0 () h rfl rfl dX3_hasItems_31
    · replace h := h.2 c_3
      refine v_iload_n C dX3_hasItems_8 rfl 1 rfl ?_
      refine v_aload_n C dX3_hasItems_9 rfl 0 rfl ?_
      refine v_get C iX3_hasItems_3 tb hT.1 rfl 3 (by decide) mX3_hasItems_w1 rfl rfl dX3_hasItems_10 ?_
      refine v_icmp_gt C 30 dX3_hasItems_13 (by decide) (fun c_2 => ?_) (fun c_2 => ?_)
      · replace h := h.1 c_2
        refine v_iconst C 0 dX3_hasItems_30 (by decide) ?_
        exact hret _ _ _ 0 () h rfl rfl dX3_hasItems_31
      · replace h := h.2 c_2
        refine v_iload_n C dX3_hasItems_16 rfl 2 rfl ?_
        refine v_aload_n C dX3_hasItems_17 rfl 0 rfl ?_
        refine v_get C iX3_hasItems_3 tb hT.1 rfl 3 (by decide) mX3_hasItems_w1 rfl rfl dX3_hasItems_18 ?_
        refine v_iload_n C dX3_hasItems_21 rfl 1 rfl ?_
        refine v_isub C dX3_hasItems_22 ?_
        refine v_icmp_gt C 30 dX3_hasItems_23 (by decide) (fun c_1 => ?_) (fun c_1 => ?_)
        · replace h := h.1 c_1
          refine v_iconst C 0 dX3_hasItems_30 (by decide) ?_
          exact hret _ _ _ 0 () h rfl rfl dX3_hasItems_31
        · replace h := h.2 c_1
          refine v_iconst C 1 dX3_hasItems_26 (by decide) ?_
          refine v_goto C 31 dX3_hasItems_27 (by decide) ?_
          exact hret _ _ _ 1 () h rfl rfl dX3_hasItems_31
-- QuarterMasks$Signs.addSign
def rmX4_addSign : Room := { frames := 2, cells := 0, slots := 0, locals := 61 }
theorem kX4_addSign : yX4_addSign.cls = RX4 ∧ yX4_addSign.cls ≠ "java/lang/invoke/MethodHandle" ∧ yX4_addSign.cls ≠ "java/lang/invoke/VarHandle" ∧ (parseMethodDescriptor yX4_addSign.desc).map (fun d => d.parameters.length) = some 1 := by decide +kernel
theorem mX4_addSign_w1 : Cond.fieldLink RX4 22 "QuarterMasks$Signs" "told" "I" ∈ wsX4_addSign := List.mem_of_getElem? (i := 1) rfl
theorem iX4_addSign_4 : ∀ w ∈ wsX40, w ∈ wsX4_addSign := fun w h => List.mem_cons_of_mem _ (List.mem_append_right _ h)
theorem mX4_addSign_w5 : Cond.initialized RX5 ∈ wsX4_addSign := List.mem_of_getElem? (i := 5) rfl
theorem mX4_addSign_w4 : Cond.static yX5_within ∈ wsX4_addSign := List.mem_of_getElem? (i := 4) rfl
theorem mX4_addSign_w2 : Cond.fieldLink RX4 18 "QuarterMasks$Signs" "list" "[I" ∈ wsX4_addSign := List.mem_of_getElem? (i := 2) rfl
theorem mX4_addSign_w3 : Cond.fieldLink RX4 26 "QuarterMasks$Signs" "darkBlocks" "I" ∈ wsX4_addSign := List.mem_of_getElem? (i := 3) rfl
def wj_Si_addSign_33 (t_darkBlocks : Int32) (a1 : Int32) (Q : IA → Int32 → Int32 → Prop) (tlist_1 : IA) (ttold_1 : Int32) : Prop :=
  (a1 = 1 → (∀ v_darkBlocks_1 : Int32, v_darkBlocks_1 = (t_darkBlocks + 1) → (Q tlist_1 ttold_1 v_darkBlocks_1))) ∧ (¬ a1 = 1 → (Q tlist_1 ttold_1 t_darkBlocks))
def wp_Si_addSign (t_list : IA) (t_told : Int32) (t_darkBlocks : Int32) (a1 : Int32) (Q : IA → Int32 → Int32 → Prop) : Prop :=
  wp_Qm_within t_told 341 (fun r_1 => jn (wj_Si_addSign_33 t_darkBlocks a1 Q) (fun K_1 : IA → Int32 → Prop => (r_1 = 0 → (K_1 t_list t_told)) ∧ (¬ r_1 = 0 → (vp_in t_told 341 ∧ (∀ f_list_1 : IA, f_list_1 = upd t_list t_told.toNatClampNeg a1 → (∀ v_told_1 : Int32, v_told_1 = (t_told + 1) → (K_1 f_list_1 v_told_1)))))))
set_option maxHeartbeats 4000000 in
theorem c_Si_addSign (l : Launch) (G : GG) (ad : Nat → Nat) (Wd : IA → IA → Int32 → Int32 → Int32 → Int32 → va_W) (tb : Nat)  (hT : nW G ad Wd tb) (t_seen : IA) (t_list : IA) (t_told : Int32) (t_darkBlocks : Int32) (t_mixed : Int32) (t_deepest : Int32) (a1 : Int32) {Q : IA → Int32 → Int32 → Prop} (h : wp_Si_addSign t_list t_told t_darkBlocks a1 Q) : qm_MV l yX4_addSign wsX4_addSign rmX4_addSign G [.ref (ad tb), .int a1] (Wd t_seen t_list t_told t_darkBlocks t_mixed t_deepest) (fun (u : IA × Int32 × Int32) => Q u.1 u.2.1 u.2.2) (fun (u : IA × Int32 × Int32) => Wd t_seen u.1 u.2.1 u.2.2 t_mixed t_deepest) := by
  refine qm_mkV (cc := cX4_addSign) (maxL := 2) (by decide) rfl (Nat.le_of_ble_eq_true rfl) ?_
  intro X C hret
  replace C : qm_C G 2 X cX4_addSign wsX4_addSign RX4 := C
  refine v_lv (lv' := [(0, .ref (ad tb)), (1, .int a1)]) rfl ?_
  unfold wp_Si_addSign at h
  refine v_aload_n C dX4_addSign_0 rfl 0 rfl ?_
  refine v_get C iX4_addSign_4 tb (hT t_seen t_list t_told t_darkBlocks t_mixed t_deepest).1.1 rfl 2 (by decide) mX4_addSign_w1 rfl rfl dX4_addSign_1 ?_
  refine v_sipush C 341 dX4_addSign_4 (by decide) ?_
  refine v_callSNi C (c_Qm_within l G (Wd t_seen t_list t_told t_darkBlocks t_mixed t_deepest) t_told 341 h) gX4_addSign_X5_within_n61 rfl (fun _ h => h.2.2.1) mX4_addSign_w5 mX4_addSign_w4 kX5_within ⟨rfl, rfl⟩ ⟨Nat.le_of_ble_eq_true rfl, Nat.le_of_ble_eq_true rfl⟩ rfl (Nat.le_of_ble_eq_true rfl) dX4_addSign_7 (fun r_1 _ h => ?_)
  try dsimp only at h
  have hJ_1 : ∀ (tlist_1 : IA) (ttold_1 : Int32), (wj_Si_addSign_33 t_darkBlocks a1 Q) tlist_1 ttold_1 → qm_V l G rmX4_addSign 2 X (Wd t_seen tlist_1 ttold_1 t_darkBlocks t_mixed t_deepest) [(0, .ref (ad tb)), (1, .int a1)] 33 [] := by
    intro tlist_1 ttold_1 h
    unfold wj_Si_addSign_33 at h
    refine v_iload_n C dX4_addSign_33 rfl 1 rfl ?_
    refine v_iconst C 1 dX4_addSign_34 (by decide) ?_
    refine v_icmp_ne C 48 dX4_addSign_35 (by decide) (fun c_1 => ?_) (fun c_1 => ?_)
    · replace h := h.2 c_1
      exact hret _ _ _ (tlist_1, ttold_1, t_darkBlocks) h rfl dX4_addSign_48
    · replace h := h.1 c_1
      refine v_aload_n C dX4_addSign_38 rfl 0 rfl ?_
      refine v_dup C dX4_addSign_39 rfl ?_
      refine v_get C iX4_addSign_4 tb (hT t_seen tlist_1 ttold_1 t_darkBlocks t_mixed t_deepest).1.1 rfl 3 (by decide) mX4_addSign_w3 rfl rfl dX4_addSign_40 ?_
      refine v_iconst C 1 dX4_addSign_43 (by decide) ?_
      refine v_iadd C dX4_addSign_44 ?_
      refine v_topi (fun v_darkBlocks_1 ev_darkBlocks_1 => ?_)
      replace h := h v_darkBlocks_1 ev_darkBlocks_1
      refine v_put C iX4_addSign_4 tyX4_ok nmX4 tb (hT t_seen tlist_1 ttold_1 t_darkBlocks t_mixed t_deepest).1.1 rfl 3 (by decide) mX4_addSign_w3 rfl rfl rfl rfl rfl (Nat.le_of_ble_eq_true rfl) (ws' := Wd t_seen tlist_1 ttold_1 v_darkBlocks_1 t_mixed t_deepest) ((hT t_seen tlist_1 ttold_1 t_darkBlocks t_mixed t_deepest).2.2.2.2.1 _) dX4_addSign_45 ?_
      exact hret _ _ _ (tlist_1, ttold_1, v_darkBlocks_1) h rfl dX4_addSign_48
  replace h := jn_use h
  try dsimp only at h
  refine v_if_eq C 33 dX4_addSign_10 (by decide) (fun c_2 => ?_) (fun c_2 => ?_)
  · replace h := h.1 c_2
    exact hJ_1 t_list t_told h
  · replace h := h.2 c_2
    refine v_aload_n C dX4_addSign_13 rfl 0 rfl ?_
    refine v_get C iX4_addSign_4 tb (hT t_seen t_list t_told t_darkBlocks t_mixed t_deepest).1.1 rfl 1 (by decide) mX4_addSign_w2 rfl rfl dX4_addSign_14 ?_
    refine v_aload_n C dX4_addSign_17 rfl 0 rfl ?_
    refine v_get C iX4_addSign_4 tb (hT t_seen t_list t_told t_darkBlocks t_mixed t_deepest).1.1 rfl 2 (by decide) mX4_addSign_w1 rfl rfl dX4_addSign_18 ?_
    refine v_iload_n C dX4_addSign_21 rfl 1 rfl ?_
    obtain ⟨hin_1, h⟩ := h
    obtain ⟨f_list_1, ef_list_1⟩ : ∃ y : IA, y = upd t_list t_told.toNatClampNeg a1 := ⟨_, rfl⟩
    replace h := h f_list_1 ef_list_1
    refine v_iast C (tb + 3) (hT t_seen t_list t_told t_darkBlocks t_mixed t_deepest).1.2.2.2 (ws' := Wd t_seen f_list_1 t_told t_darkBlocks t_mixed t_deepest) (by subst ef_list_1; exact ((hT t_seen t_list t_told t_darkBlocks t_mixed t_deepest).2.2.1 _)) hin_1 dX4_addSign_22 ?_
    refine v_aload_n C dX4_addSign_23 rfl 0 rfl ?_
    refine v_dup C dX4_addSign_24 rfl ?_
    refine v_get C iX4_addSign_4 tb (hT t_seen f_list_1 t_told t_darkBlocks t_mixed t_deepest).1.1 rfl 2 (by decide) mX4_addSign_w1 rfl rfl dX4_addSign_25 ?_
    refine v_iconst C 1 dX4_addSign_28 (by decide) ?_
    refine v_iadd C dX4_addSign_29 ?_
    refine v_topi (fun v_told_1 ev_told_1 => ?_)
    replace h := h v_told_1 ev_told_1
    refine v_put C iX4_addSign_4 tyX4_ok nmX4 tb (hT t_seen f_list_1 t_told t_darkBlocks t_mixed t_deepest).1.1 rfl 2 (by decide) mX4_addSign_w1 rfl rfl rfl rfl rfl (Nat.le_of_ble_eq_true rfl) (ws' := Wd t_seen f_list_1 v_told_1 t_darkBlocks t_mixed t_deepest) ((hT t_seen f_list_1 t_told t_darkBlocks t_mixed t_deepest).2.2.2.1 _) dX4_addSign_30 ?_
    exact hJ_1 f_list_1 v_told_1 h
-- QuarterMasks$Signs.tellSquare
def rmX4_tellSquare (dd : Nat) : Room := { frames := 3 + dd, cells := 0, slots := 0, locals := 87 + 27 * dd }
theorem kX4_tellSquare : yX4_tellSquare.cls ≠ "java/lang/invoke/MethodHandle" ∧ yX4_tellSquare.cls ≠ "java/lang/invoke/VarHandle" ∧ (parseMethodDescriptor yX4_tellSquare.desc).map (fun d => d.parameters.length) = some 5 := by decide +kernel
theorem mX4_tellSquare_w1 : Cond.fieldLink RX4 12 "QuarterMasks$Signs" "seen" "LQuarterMasks$Grid;" ∈ wsX4_tellSquare := List.mem_of_getElem? (i := 1) rfl
theorem iX4_tellSquare_4 : ∀ w ∈ wsX40, w ∈ wsX4_tellSquare := fun w h => List.mem_cons_of_mem _ (List.mem_append_left _ (List.mem_append_right _ h))
theorem mX4_tellSquare_w2 : Cond.fieldLink RX4 29 "QuarterMasks$Signs" "mixed" "I" ∈ wsX4_tellSquare := List.mem_of_getElem? (i := 2) rfl
theorem mX4_tellSquare_w3 : Cond.fieldLink RX4 32 "QuarterMasks$Signs" "deepest" "I" ∈ wsX4_tellSquare := List.mem_of_getElem? (i := 3) rfl
theorem mX4_tellSquare_w4 : Cond.methodLink RX4 55 Lib.Math.max.name ∈ wsX4_tellSquare := List.mem_of_getElem? (i := 4) rfl
theorem mX4_tellSquare_w5 : Cond.static Lib.Math.max.name ∈ wsX4_tellSquare := List.mem_of_getElem? (i := 5) rfl
theorem mX4_tellSquare_w6 : Cond.initialized "java/lang/Math" ∈ wsX4_tellSquare := List.mem_of_getElem? (i := 6) rfl
theorem mX4_tellSquare_w7 : Cond.code Lib.Math.max.name Lib.Math.max.code 2 (some .int) ∈ wsX4_tellSquare := List.mem_of_getElem? (i := 7) rfl
def wl_Si_tellSquare_61 (t_seen : IA) (a1 : Int32) (a2 : Int32) (a4 : Int32) (Q : IA → Int32 → Int32 → Int32 → Int32 → Prop) (REC : IA → IA → Int32 → Int32 → Int32 → Int32 → Int32 → Int32 → Int32 → Int32 → (IA → Int32 → Int32 → Int32 → Int32 → Prop) → Prop) (x6_1 : Int32) : Nat → Int32 → IA → Int32 → Int32 → Int32 → Int32 → Prop
  | 0, _, _, _, _, _, _ => False
  | n + 1, x7_1, tlist_1, ttold_1, tdarkBlocks_1, tmixed_1, tdeepest_1 => (4 ≤ x7_1 → (Q tlist_1 ttold_1 tdarkBlocks_1 tmixed_1 tdeepest_1)) ∧ (¬ 4 ≤ x7_1 → (REC t_seen tlist_1 ttold_1 tdarkBlocks_1 tmixed_1 tdeepest_1 (a1 + ((jrem x7_1 2) * x6_1)) (a2 + ((x7_1 / 2) * x6_1)) x6_1 (a4 + 1) (fun m_list_2 m_told_2 m_darkBlocks_2 m_mixed_1 m_deepest_1 => (wl_Si_tellSquare_61 t_seen a1 a2 a4 Q REC x6_1 n) (x7_1 + 1) m_list_2 m_told_2 m_darkBlocks_2 m_mixed_1 m_deepest_1)))
def wb_Si_tellSquare (REC : IA → IA → Int32 → Int32 → Int32 → Int32 → Int32 → Int32 → Int32 → Int32 → (IA → Int32 → Int32 → Int32 → Int32 → Prop) → Prop) (t_seen : IA) (t_list : IA) (t_told : Int32) (t_darkBlocks : Int32) (t_mixed : Int32) (t_deepest : Int32) (a1 : Int32) (a2 : Int32) (a3 : Int32) (a4 : Int32) (Q : IA → Int32 → Int32 → Int32 → Int32 → Prop) : Prop :=
  wp_Gr_signOfSquare t_seen a1 a2 a3 (fun r_1 => wp_Si_addSign t_list t_told t_darkBlocks r_1 (fun m_list_1 m_told_1 m_darkBlocks_1 => (r_1 = 2 → ((1 < a3 → (∀ v_mixed_1 : Int32, v_mixed_1 = (t_mixed + 1) → (∀ v_deepest_1 : Int32, v_deepest_1 = (jmax t_deepest a4) → (∀ x6_1 : Int32, x6_1 = (a3 / 2) → (∃ k_1 : Nat, wl_Si_tellSquare_61 t_seen a1 a2 a4 Q REC x6_1 k_1 0 m_list_1 m_told_1 m_darkBlocks_1 v_mixed_1 v_deepest_1))))) ∧ (¬ 1 < a3 → (Q m_list_1 m_told_1 m_darkBlocks_1 t_mixed t_deepest)))) ∧ (¬ r_1 = 2 → (Q m_list_1 m_told_1 m_darkBlocks_1 t_mixed t_deepest))))
def wp_Si_tellSquare : Nat → IA → IA → Int32 → Int32 → Int32 → Int32 → Int32 → Int32 → Int32 → Int32 → (IA → Int32 → Int32 → Int32 → Int32 → Prop) → Prop
  | 0, _, _, _, _, _, _, _, _, _, _, _ => False
  | dd + 1, t_seen, t_list, t_told, t_darkBlocks, t_mixed, t_deepest, a1, a2, a3, a4, Q => wb_Si_tellSquare (wp_Si_tellSquare dd) t_seen t_list t_told t_darkBlocks t_mixed t_deepest a1 a2 a3 a4 Q
set_option maxHeartbeats 4000000 in
theorem c_Si_tellSquare (l : Launch) (G : GG) (ad : Nat → Nat) (Wd : IA → IA → Int32 → Int32 → Int32 → Int32 → va_W) (tb : Nat)  (hT : nW G ad Wd tb) : ∀ (dd : Nat) (t_seen : IA) (t_list : IA) (t_told : Int32) (t_darkBlocks : Int32) (t_mixed : Int32) (t_deepest : Int32) (a1 : Int32) (a2 : Int32) (a3 : Int32) (a4 : Int32) {Q : IA → Int32 → Int32 → Int32 → Int32 → Prop} (h : wp_Si_tellSquare dd t_seen t_list t_told t_darkBlocks t_mixed t_deepest a1 a2 a3 a4 Q), qm_MV l yX4_tellSquare wsX4_tellSquare (rmX4_tellSquare dd) G [.ref (ad tb), .int a1, .int a2, .int a3, .int a4] (Wd t_seen t_list t_told t_darkBlocks t_mixed t_deepest) (fun (u : IA × Int32 × Int32 × Int32 × Int32) => Q u.1 u.2.1 u.2.2.1 u.2.2.2.1 u.2.2.2.2) (fun (u : IA × Int32 × Int32 × Int32 × Int32) => Wd t_seen u.1 u.2.1 u.2.2.1 u.2.2.2.1 u.2.2.2.2) := by
  intro dd
  induction dd with
  | zero =>
    intro t_seen t_list t_told t_darkBlocks t_mixed t_deepest a1 a2 a3 a4 Q h
    exact False.elim h
  | succ dd ihd =>
    intro t_seen t_list t_told t_darkBlocks t_mixed t_deepest a1 a2 a3 a4 Q h
    refine qm_mkV (cc := cX4_tellSquare) (maxL := 8) (by decide) rfl (Nat.le_of_ble_eq_true rfl) ?_
    intro X C hret
    replace C : qm_C G 8 X cX4_tellSquare wsX4_tellSquare RX4 := C
    refine v_lv (lv' := [(0, .ref (ad tb)), (1, .int a1), (2, .int a2), (3, .int a3), (4, .int a4)]) rfl ?_
    rw [wp_Si_tellSquare] at h
    unfold wb_Si_tellSquare at h
    refine v_aload_n C dX4_tellSquare_0 rfl 0 rfl ?_
    refine v_get C iX4_tellSquare_4 tb (hT t_seen t_list t_told t_darkBlocks t_mixed t_deepest).1.1 rfl 0 (by decide) mX4_tellSquare_w1 rfl rfl dX4_tellSquare_1 ?_
    refine v_iload_n C dX4_tellSquare_4 rfl 1 rfl ?_
    refine v_iload_n C dX4_tellSquare_5 rfl 2 rfl ?_
    refine v_iload_n C dX4_tellSquare_6 rfl 3 rfl ?_
    refine v_callVi C (c_Gr_signOfSquare l G ad (Wd t_seen t_list t_told t_darkBlocks t_mixed t_deepest) (tb + 1) (nR_seen (hT t_seen t_list t_told t_darkBlocks t_mixed t_deepest).1)  a1 a2 a3 h) (tb + 1) (nR_seen (hT t_seen t_list t_told t_darkBlocks t_mixed t_deepest).1).1 rfl gX4_tellSquare_X1_signOfSquare rfl kX1_signOfSquare ⟨rfl, rfl⟩ ⟨by simp only [rmX4_tellSquare, rmX1_signOfSquare]; omega, by simp only [rmX4_tellSquare, rmX1_signOfSquare]; omega⟩ rfl (Nat.le_of_ble_eq_true rfl) dX4_tellSquare_7 (fun r_1 _ h => ?_)
    try dsimp only at h
    refine v_istore C [(5, .int r_1), (0, .ref (ad tb)), (1, .int a1), (2, .int a2), (3, .int a3), (4, .int a4)] dX4_tellSquare_10 (by decide) rfl ?_
    refine v_aload_n C dX4_tellSquare_12 rfl 1 rfl ?_
    refine v_iload C dX4_tellSquare_13 0 rfl ?_
    refine v_callVv C (c_Si_addSign l G ad (fun y0 y1 y2 y3 y4 y5 => Wd y0 y1 y2 y3 y4 y5) tb hT t_seen t_list t_told t_darkBlocks t_mixed t_deepest r_1 h) tb (hT t_seen t_list t_told t_darkBlocks t_mixed t_deepest).1.1 rfl gX4_tellSquare_X4_addSign rfl kX4_addSign ⟨rfl, rfl⟩ ⟨by simp only [rmX4_tellSquare, rmX4_addSign]; omega, by simp only [rmX4_tellSquare, rmX4_addSign]; omega⟩ rfl (Nat.le_of_ble_eq_true rfl) dX4_tellSquare_15 (fun u h => ?_)
    obtain ⟨m_list_1, m_told_1, m_darkBlocks_1⟩ := u
    try dsimp only at h
    refine v_world (ws' := Wd t_seen m_list_1 m_told_1 m_darkBlocks_1 t_mixed t_deepest) rfl ?_
    refine v_iload C dX4_tellSquare_18 0 rfl ?_
    refine v_iconst C 2 dX4_tellSquare_20 (by decide) ?_
    refine v_icmp_ne C 29 dX4_tellSquare_21 (by decide) (fun c_3 => ?_) (fun c_3 => ?_)
    · replace h := h.2 c_3
      exact hret _ _ _ (m_list_1, m_told_1, m_darkBlocks_1, t_mixed, t_deepest) h rfl dX4_tellSquare_29
    · replace h := h.1 c_3
      refine v_iload_n C dX4_tellSquare_24 rfl 4 rfl ?_
      refine v_iconst C 1 dX4_tellSquare_25 (by decide) ?_
      refine v_icmp_gt C 30 dX4_tellSquare_26 (by decide) (fun c_2 => ?_) (fun c_2 => ?_)
      · replace h := h.1 c_2
        refine v_aload_n C dX4_tellSquare_30 rfl 1 rfl ?_
        refine v_dup C dX4_tellSquare_31 rfl ?_
        refine v_get C iX4_tellSquare_4 tb (hT t_seen m_list_1 m_told_1 m_darkBlocks_1 t_mixed t_deepest).1.1 rfl 4 (by decide) mX4_tellSquare_w2 rfl rfl dX4_tellSquare_32 ?_
        refine v_iconst C 1 dX4_tellSquare_35 (by decide) ?_
        refine v_iadd C dX4_tellSquare_36 ?_
        refine v_topi (fun v_mixed_1 ev_mixed_1 => ?_)
        replace h := h v_mixed_1 ev_mixed_1
        refine v_put C iX4_tellSquare_4 tyX4_ok nmX4 tb (hT t_seen m_list_1 m_told_1 m_darkBlocks_1 t_mixed t_deepest).1.1 rfl 4 (by decide) mX4_tellSquare_w2 rfl rfl rfl rfl rfl (Nat.le_of_ble_eq_true rfl) (ws' := Wd t_seen m_list_1 m_told_1 m_darkBlocks_1 v_mixed_1 t_deepest) ((hT t_seen m_list_1 m_told_1 m_darkBlocks_1 t_mixed t_deepest).2.2.2.2.2.1 _) dX4_tellSquare_37 ?_
        refine v_aload_n C dX4_tellSquare_40 rfl 1 rfl ?_
        refine v_aload_n C dX4_tellSquare_41 rfl 1 rfl ?_
        refine v_get C iX4_tellSquare_4 tb (hT t_seen m_list_1 m_told_1 m_darkBlocks_1 v_mixed_1 t_deepest).1.1 rfl 5 (by decide) mX4_tellSquare_w3 rfl rfl dX4_tellSquare_42 ?_
        refine v_iload C dX4_tellSquare_45 5 rfl ?_
        refine v_mmax C (List.forall_mem_cons.mpr ⟨mX4_tellSquare_w4, List.forall_mem_cons.mpr ⟨mX4_tellSquare_w5, List.forall_mem_cons.mpr ⟨mX4_tellSquare_w6, List.forall_mem_cons.mpr ⟨mX4_tellSquare_w7, fun _ h => absurd h List.not_mem_nil⟩⟩⟩⟩) ⟨by simp only [rmX4_tellSquare]; omega, by simp only [rmX4_tellSquare]; omega⟩ (Nat.le_of_ble_eq_true rfl) dX4_tellSquare_47 ?_
        refine v_topi (fun v_deepest_1 ev_deepest_1 => ?_)
        replace h := h v_deepest_1 ev_deepest_1
        refine v_put C iX4_tellSquare_4 tyX4_ok nmX4 tb (hT t_seen m_list_1 m_told_1 m_darkBlocks_1 v_mixed_1 t_deepest).1.1 rfl 5 (by decide) mX4_tellSquare_w3 rfl rfl rfl rfl rfl (Nat.le_of_ble_eq_true rfl) (ws' := Wd t_seen m_list_1 m_told_1 m_darkBlocks_1 v_mixed_1 v_deepest_1) ((hT t_seen m_list_1 m_told_1 m_darkBlocks_1 v_mixed_1 t_deepest).2.2.2.2.2.2 _) dX4_tellSquare_50 ?_
        refine v_iload_n C dX4_tellSquare_53 rfl 4 rfl ?_
        refine v_iconst C 2 dX4_tellSquare_54 (by decide) ?_
        refine v_idiv C dX4_tellSquare_55 (by decide) ?_
        refine v_topi (fun x6_1 ex6_1 => ?_)
        replace h := h x6_1 ex6_1
        refine v_istore C [(6, .int x6_1), (5, .int r_1), (0, .ref (ad tb)), (1, .int a1), (2, .int a2), (3, .int a3), (4, .int a4)] dX4_tellSquare_56 (by decide) rfl ?_
        refine v_iconst C 0 dX4_tellSquare_58 (by decide) ?_
        refine v_istore C [(7, .int 0), (6, .int x6_1), (5, .int r_1), (0, .ref (ad tb)), (1, .int a1), (2, .int a2), (3, .int a3), (4, .int a4)] dX4_tellSquare_59 (by decide) rfl ?_
        have hl_1 : ∀ n_1 : Nat, ∀ (x7_1 : Int32) (tlist_1 : IA) (ttold_1 : Int32) (tdarkBlocks_1 : Int32) (tmixed_1 : Int32) (tdeepest_1 : Int32), wl_Si_tellSquare_61 t_seen a1 a2 a4 Q (wp_Si_tellSquare dd) x6_1 n_1 x7_1 tlist_1 ttold_1 tdarkBlocks_1 tmixed_1 tdeepest_1 → qm_V l G (rmX4_tellSquare (dd + 1)) 8 X (Wd t_seen tlist_1 ttold_1 tdarkBlocks_1 tmixed_1 tdeepest_1) [(7, .int x7_1), (6, .int x6_1), (5, .int r_1), (0, .ref (ad tb)), (1, .int a1), (2, .int a2), (3, .int a3), (4, .int a4)] 61 [] := by
          intro n_1
          induction n_1 with
          | zero =>
            intro x7_1 tlist_1 ttold_1 tdarkBlocks_1 tmixed_1 tdeepest_1 h
            exact False.elim h
          | succ n_1 ih_1 =>
            intro x7_1 tlist_1 ttold_1 tdarkBlocks_1 tmixed_1 tdeepest_1 h
            rw [wl_Si_tellSquare_61] at h
            refine v_iload C dX4_tellSquare_61 0 rfl ?_
            refine v_iconst C 4 dX4_tellSquare_63 (by decide) ?_
            refine v_icmp_ge C 101 dX4_tellSquare_64 (by decide) (fun c_1 => ?_) (fun c_1 => ?_)
            · replace h := h.1 c_1
              exact hret _ _ _ (tlist_1, ttold_1, tdarkBlocks_1, tmixed_1, tdeepest_1) h rfl dX4_tellSquare_101
            · replace h := h.2 c_1
              refine v_aload_n C dX4_tellSquare_67 rfl 3 rfl ?_
              refine v_iload_n C dX4_tellSquare_68 rfl 4 rfl ?_
              refine v_iload C dX4_tellSquare_69 0 rfl ?_
              refine v_iconst C 2 dX4_tellSquare_71 (by decide) ?_
              refine v_irem C dX4_tellSquare_72 (by decide) ?_
              refine v_iload C dX4_tellSquare_73 1 rfl ?_
              refine v_imul C dX4_tellSquare_75 ?_
              refine v_iadd C dX4_tellSquare_76 ?_
              refine v_iload_n C dX4_tellSquare_77 rfl 5 rfl ?_
              refine v_iload C dX4_tellSquare_78 0 rfl ?_
              refine v_iconst C 2 dX4_tellSquare_80 (by decide) ?_
              refine v_idiv C dX4_tellSquare_81 (by decide) ?_
              refine v_iload C dX4_tellSquare_82 1 rfl ?_
              refine v_imul C dX4_tellSquare_84 ?_
              refine v_iadd C dX4_tellSquare_85 ?_
              refine v_iload C dX4_tellSquare_86 1 rfl ?_
              refine v_iload C dX4_tellSquare_88 7 rfl ?_
              refine v_iconst C 1 dX4_tellSquare_90 (by decide) ?_
              refine v_iadd C dX4_tellSquare_91 ?_
              refine v_callSv C (ihd t_seen tlist_1 ttold_1 tdarkBlocks_1 tmixed_1 tdeepest_1 (a1 + ((jrem x7_1 2) * x6_1)) (a2 + ((x7_1 / 2) * x6_1)) x6_1 (a4 + 1) h) gX4_tellSquare_X4_tellSquare rfl kX4_tellSquare ⟨rfl, rfl⟩ ⟨by simp only [rmX4_tellSquare]; omega, by simp only [rmX4_tellSquare]; omega⟩ rfl (Nat.le_of_ble_eq_true rfl) dX4_tellSquare_92 (fun u h => ?_)
              obtain ⟨m_list_2, m_told_2, m_darkBlocks_2, m_mixed_1, m_deepest_1⟩ := u
              try dsimp only at h
              refine v_world (ws' := Wd t_seen m_list_2 m_told_2 m_darkBlocks_2 m_mixed_1 m_deepest_1) rfl ?_
              refine v_iinc C (x7_1 + 1) 0 [(7, .int (x7_1 + 1)), (6, .int x6_1), (5, .int r_1), (0, .ref (ad tb)), (1, .int a1), (2, .int a2), (3, .int a3), (4, .int a4)] dX4_tellSquare_95 rfl rfl (by decide) rfl ?_
              refine v_goto C 61 dX4_tellSquare_98 (by decide) ?_
              exact ih_1 (x7_1 + 1) m_list_2 m_told_2 m_darkBlocks_2 m_mixed_1 m_deepest_1 h
        obtain ⟨k_1, h⟩ := h
        exact hl_1 k_1 0 m_list_1 m_told_1 m_darkBlocks_1 v_mixed_1 v_deepest_1 h
      · replace h := h.2 c_2
        exact hret _ _ _ (m_list_1, m_told_1, m_darkBlocks_1, t_mixed, t_deepest) h rfl dX4_tellSquare_29
-- QuarterMasks$Signs.look
def rmX4_look : Room := { frames := 9, cells := 0, slots := 0, locals := 249 }
theorem kX4_look : yX4_look.cls = RX4 ∧ yX4_look.cls ≠ "java/lang/invoke/MethodHandle" ∧ yX4_look.cls ≠ "java/lang/invoke/VarHandle" ∧ (parseMethodDescriptor yX4_look.desc).map (fun d => d.parameters.length) = some 1 := by decide +kernel
theorem mX4_look_w1 : Cond.fieldLink RX4 12 "QuarterMasks$Signs" "seen" "LQuarterMasks$Grid;" ∈ wsX4_look := List.mem_of_getElem? (i := 1) rfl
theorem iX4_look_4 : ∀ w ∈ wsX40, w ∈ wsX4_look := fun w h => List.mem_cons_of_mem _ (List.mem_append_left _ (List.mem_append_right _ h))
theorem mX4_look_w2 : Cond.fieldLink RX4 22 "QuarterMasks$Signs" "told" "I" ∈ wsX4_look := List.mem_of_getElem? (i := 2) rfl
theorem mX4_look_w3 : Cond.fieldLink RX4 26 "QuarterMasks$Signs" "darkBlocks" "I" ∈ wsX4_look := List.mem_of_getElem? (i := 3) rfl
theorem mX4_look_w4 : Cond.fieldLink RX4 29 "QuarterMasks$Signs" "mixed" "I" ∈ wsX4_look := List.mem_of_getElem? (i := 4) rfl
theorem mX4_look_w5 : Cond.fieldLink RX4 32 "QuarterMasks$Signs" "deepest" "I" ∈ wsX4_look := List.mem_of_getElem? (i := 5) rfl
def wp_Si_look (t_seen : IA) (t_list : IA) (t_told : Int32) (t_darkBlocks : Int32) (t_mixed : Int32) (t_deepest : Int32) (o_rows : IA)  (Q : IA → IA → Int32 → Int32 → Int32 → Int32 → Prop) : Prop :=
  wp_Gr_sameAs t_seen o_rows (fun r_1 => (r_1 = 0 → (wp_Gr_take t_seen o_rows (fun m_rows_1 => wp_Si_tellSquare 5 m_rows_1 t_list 0 0 0 0 0 0 16 1 (fun m_list_1 m_told_1 m_darkBlocks_1 m_mixed_1 m_deepest_1 => Q m_rows_1 m_list_1 m_told_1 m_darkBlocks_1 m_mixed_1 m_deepest_1)))) ∧ (¬ r_1 = 0 → (Q t_seen t_list t_told t_darkBlocks t_mixed t_deepest)))
set_option maxHeartbeats 4000000 in
theorem c_Si_look (l : Launch) (G : GG) (ad : Nat → Nat) (Wd : IA → IA → Int32 → Int32 → Int32 → Int32 → va_W) (tb ob : Nat) {o_rows : IA} (hT : nW G ad Wd tb) (hO : ∀ (t_seen : IA) (t_list : IA) (t_told : Int32) (t_darkBlocks : Int32) (t_mixed : Int32) (t_deepest : Int32), gR G ad (Wd t_seen t_list t_told t_darkBlocks t_mixed t_deepest) ob o_rows) (t_seen : IA) (t_list : IA) (t_told : Int32) (t_darkBlocks : Int32) (t_mixed : Int32) (t_deepest : Int32)  {Q : IA → IA → Int32 → Int32 → Int32 → Int32 → Prop} (h : wp_Si_look t_seen t_list t_told t_darkBlocks t_mixed t_deepest o_rows Q) : qm_MV l yX4_look wsX4_look rmX4_look G [.ref (ad tb), .ref (ad ob)] (Wd t_seen t_list t_told t_darkBlocks t_mixed t_deepest) (fun (u : IA × IA × Int32 × Int32 × Int32 × Int32) => Q u.1 u.2.1 u.2.2.1 u.2.2.2.1 u.2.2.2.2.1 u.2.2.2.2.2) (fun (u : IA × IA × Int32 × Int32 × Int32 × Int32) => Wd u.1 u.2.1 u.2.2.1 u.2.2.2.1 u.2.2.2.2.1 u.2.2.2.2.2) := by
  refine qm_mkV (cc := cX4_look) (maxL := 2) (by decide) rfl (Nat.le_of_ble_eq_true rfl) ?_
  intro X C hret
  replace C : qm_C G 2 X cX4_look wsX4_look RX4 := C
  refine v_lv (lv' := [(0, .ref (ad tb)), (1, .ref (ad ob))]) rfl ?_
  unfold wp_Si_look at h
  refine v_aload_n C dX4_look_0 rfl 0 rfl ?_
  refine v_get C iX4_look_4 tb (hT t_seen t_list t_told t_darkBlocks t_mixed t_deepest).1.1 rfl 0 (by decide) mX4_look_w1 rfl rfl dX4_look_1 ?_
  refine v_aload_n C dX4_look_4 rfl 1 rfl ?_
  refine v_callVi C (c_Gr_sameAs l G ad (Wd t_seen t_list t_told t_darkBlocks t_mixed t_deepest) (tb + 1) ob (nR_seen (hT t_seen t_list t_told t_darkBlocks t_mixed t_deepest).1) (hO t_seen t_list t_told t_darkBlocks t_mixed t_deepest)  h) (tb + 1) (nR_seen (hT t_seen t_list t_told t_darkBlocks t_mixed t_deepest).1).1 rfl gX4_look_X1_sameAs rfl kX1_sameAs ⟨rfl, rfl⟩ ⟨Nat.le_of_ble_eq_true rfl, Nat.le_of_ble_eq_true rfl⟩ rfl (Nat.le_of_ble_eq_true rfl) dX4_look_5 (fun r_1 _ h => ?_)
  try dsimp only at h
  refine v_if_eq C 12 dX4_look_8 (by decide) (fun c_1 => ?_) (fun c_1 => ?_)
  · replace h := h.1 c_1
    refine v_aload_n C dX4_look_12 rfl 0 rfl ?_
    refine v_get C iX4_look_4 tb (hT t_seen t_list t_told t_darkBlocks t_mixed t_deepest).1.1 rfl 0 (by decide) mX4_look_w1 rfl rfl dX4_look_13 ?_
    refine v_aload_n C dX4_look_16 rfl 1 rfl ?_
    refine v_callVv C (c_Gr_take l G ad (fun y0 => Wd y0 t_list t_told t_darkBlocks t_mixed t_deepest) (tb + 1) ob (nW_seen hT t_list t_told t_darkBlocks t_mixed t_deepest) (fun y0 => (hO y0 t_list t_told t_darkBlocks t_mixed t_deepest)) t_seen h) (tb + 1) (nR_seen (hT t_seen t_list t_told t_darkBlocks t_mixed t_deepest).1).1 rfl gX4_look_X1_take rfl kX1_take ⟨rfl, rfl⟩ ⟨Nat.le_of_ble_eq_true rfl, Nat.le_of_ble_eq_true rfl⟩ rfl (Nat.le_of_ble_eq_true rfl) dX4_look_17 (fun m_rows_1 h => ?_)
    try dsimp only at h
    refine v_world (ws' := Wd m_rows_1 t_list t_told t_darkBlocks t_mixed t_deepest) rfl ?_
    refine v_aload_n C dX4_look_20 rfl 0 rfl ?_
    refine v_iconst C 0 dX4_look_21 (by decide) ?_
    refine v_put C iX4_look_4 tyX4_ok nmX4 tb (hT m_rows_1 t_list t_told t_darkBlocks t_mixed t_deepest).1.1 rfl 2 (by decide) mX4_look_w2 rfl rfl rfl rfl rfl (Nat.le_of_ble_eq_true rfl) (ws' := Wd m_rows_1 t_list 0 t_darkBlocks t_mixed t_deepest) ((hT m_rows_1 t_list t_told t_darkBlocks t_mixed t_deepest).2.2.2.1 _) dX4_look_22 ?_
    refine v_aload_n C dX4_look_25 rfl 0 rfl ?_
    refine v_iconst C 0 dX4_look_26 (by decide) ?_
    refine v_put C iX4_look_4 tyX4_ok nmX4 tb (hT m_rows_1 t_list 0 t_darkBlocks t_mixed t_deepest).1.1 rfl 3 (by decide) mX4_look_w3 rfl rfl rfl rfl rfl (Nat.le_of_ble_eq_true rfl) (ws' := Wd m_rows_1 t_list 0 0 t_mixed t_deepest) ((hT m_rows_1 t_list 0 t_darkBlocks t_mixed t_deepest).2.2.2.2.1 _) dX4_look_27 ?_
    refine v_aload_n C dX4_look_30 rfl 0 rfl ?_
    refine v_iconst C 0 dX4_look_31 (by decide) ?_
    refine v_put C iX4_look_4 tyX4_ok nmX4 tb (hT m_rows_1 t_list 0 0 t_mixed t_deepest).1.1 rfl 4 (by decide) mX4_look_w4 rfl rfl rfl rfl rfl (Nat.le_of_ble_eq_true rfl) (ws' := Wd m_rows_1 t_list 0 0 0 t_deepest) ((hT m_rows_1 t_list 0 0 t_mixed t_deepest).2.2.2.2.2.1 _) dX4_look_32 ?_
    refine v_aload_n C dX4_look_35 rfl 0 rfl ?_
    refine v_iconst C 0 dX4_look_36 (by decide) ?_
    refine v_put C iX4_look_4 tyX4_ok nmX4 tb (hT m_rows_1 t_list 0 0 0 t_deepest).1.1 rfl 5 (by decide) mX4_look_w5 rfl rfl rfl rfl rfl (Nat.le_of_ble_eq_true rfl) (ws' := Wd m_rows_1 t_list 0 0 0 0) ((hT m_rows_1 t_list 0 0 0 t_deepest).2.2.2.2.2.2 _) dX4_look_37 ?_
    refine v_aload_n C dX4_look_40 rfl 0 rfl ?_
    refine v_iconst C 0 dX4_look_41 (by decide) ?_
    refine v_iconst C 0 dX4_look_42 (by decide) ?_
    refine v_bipush C 16 dX4_look_43 (by decide) ?_
    refine v_iconst C 1 dX4_look_45 (by decide) ?_
    refine v_callSv C (c_Si_tellSquare l G ad (fun y0 y1 y2 y3 y4 y5 => Wd y0 y1 y2 y3 y4 y5) tb hT 5 m_rows_1 t_list 0 0 0 0 0 0 16 1 h) gX4_look_X4_tellSquare rfl kX4_tellSquare ⟨rfl, rfl⟩ ⟨Nat.le_of_ble_eq_true rfl, Nat.le_of_ble_eq_true rfl⟩ rfl (Nat.le_of_ble_eq_true rfl) dX4_look_46 (fun u h => ?_)
    obtain ⟨m_list_1, m_told_1, m_darkBlocks_1, m_mixed_1, m_deepest_1⟩ := u
    try dsimp only at h
    refine v_world (ws' := Wd m_rows_1 m_list_1 m_told_1 m_darkBlocks_1 m_mixed_1 m_deepest_1) rfl ?_
    exact hret _ _ _ (m_rows_1, m_list_1, m_told_1, m_darkBlocks_1, m_mixed_1, m_deepest_1) h rfl dX4_look_49
  · replace h := h.2 c_1
    exact hret _ _ _ (t_seen, t_list, t_told, t_darkBlocks, t_mixed, t_deepest) h rfl dX4_look_11
-- QuarterMasks$Signs.sign
def rmX4_sign : Room := { frames := 2, cells := 0, slots := 0, locals := 61 }
theorem kX4_sign : yX4_sign.cls = RX4 ∧ yX4_sign.cls ≠ "java/lang/invoke/MethodHandle" ∧ yX4_sign.cls ≠ "java/lang/invoke/VarHandle" ∧ (parseMethodDescriptor yX4_sign.desc).map (fun d => d.parameters.length) = some 1 := by decide +kernel
theorem mX4_sign_w1 : Cond.fieldLink RX4 22 "QuarterMasks$Signs" "told" "I" ∈ wsX4_sign := List.mem_of_getElem? (i := 1) rfl
theorem iX4_sign_4 : ∀ w ∈ wsX40, w ∈ wsX4_sign := fun w h => List.mem_cons_of_mem _ (List.mem_append_right _ h)
theorem mX4_sign_w4 : Cond.initialized RX5 ∈ wsX4_sign := List.mem_of_getElem? (i := 4) rfl
theorem mX4_sign_w3 : Cond.static yX5_within ∈ wsX4_sign := List.mem_of_getElem? (i := 3) rfl
theorem mX4_sign_w2 : Cond.fieldLink RX4 18 "QuarterMasks$Signs" "list" "[I" ∈ wsX4_sign := List.mem_of_getElem? (i := 2) rfl
def wp_Si_sign (t_list : IA) (t_told : Int32) (a1 : Int32) (Q : Int32 → Prop) : Prop :=
  wp_Qm_within a1 t_told (fun r_1 => (r_1 = 0 → (Q (-1))) ∧ (¬ r_1 = 0 → (wp_Qm_within a1 341 (fun r_2 => (r_2 = 0 → (Q (-1))) ∧ (¬ r_2 = 0 → (vp_in a1 341 ∧ (Q (t_list a1.toNatClampNeg))))))))
set_option maxHeartbeats 4000000 in
theorem c_Si_sign (l : Launch) (G : GG) (ad : Nat → Nat) (ws : va_W) (tb : Nat) {t_seen : IA} {t_list : IA} {t_told : Int32} {t_darkBlocks : Int32} {t_mixed : Int32} {t_deepest : Int32} (hT : nR G ad ws tb t_seen t_list t_told t_darkBlocks t_mixed t_deepest)  (a1 : Int32) {Q : Int32 → Prop} (h : wp_Si_sign t_list t_told a1 Q) : qm_MI l yX4_sign wsX4_sign rmX4_sign G [.ref (ad tb), .int a1] (ws) (fun (r : Int32) (_ : Unit) => Q r) (fun (_ : Unit) => ws) := by
  refine qm_mkI (cc := cX4_sign) (maxL := 2) (by decide) rfl (Nat.le_of_ble_eq_true rfl) ?_
  intro X C hret
  replace C : qm_C G 2 X cX4_sign wsX4_sign RX4 := C
  refine v_lv (lv' := [(0, .ref (ad tb)), (1, .int a1)]) rfl ?_
  unfold wp_Si_sign at h
  refine v_iload_n C dX4_sign_0 rfl 1 rfl ?_
  refine v_aload_n C dX4_sign_1 rfl 0 rfl ?_
  refine v_get C iX4_sign_4 tb hT.1 rfl 2 (by decide) mX4_sign_w1 rfl rfl dX4_sign_2 ?_
  refine v_callSNi C (c_Qm_within l G (ws) a1 t_told h) gX4_sign_X5_within_n61 rfl (fun _ h => h.2.2.1) mX4_sign_w4 mX4_sign_w3 kX5_within ⟨rfl, rfl⟩ ⟨Nat.le_of_ble_eq_true rfl, Nat.le_of_ble_eq_true rfl⟩ rfl (Nat.le_of_ble_eq_true rfl) dX4_sign_5 (fun r_1 _ h => ?_)
  try dsimp only at h
  refine v_if_eq C 30 dX4_sign_8 (by decide) (fun c_2 => ?_) (fun c_2 => ?_)
  · replace h := h.1 c_2
    refine v_iconst C (-1) dX4_sign_30 (by decide) ?_
    exact hret _ _ _ (-1) () h rfl dX4_sign_31
  · replace h := h.2 c_2
    refine v_iload_n C dX4_sign_11 rfl 1 rfl ?_
    refine v_sipush C 341 dX4_sign_12 (by decide) ?_
    refine v_callSNi C (c_Qm_within l G (ws) a1 341 h) gX4_sign_X5_within_n61 rfl (fun _ h => h.2.2.1) mX4_sign_w4 mX4_sign_w3 kX5_within ⟨rfl, rfl⟩ ⟨Nat.le_of_ble_eq_true rfl, Nat.le_of_ble_eq_true rfl⟩ rfl (Nat.le_of_ble_eq_true rfl) dX4_sign_15 (fun r_2 _ h => ?_)
    try dsimp only at h
    refine v_if_eq C 30 dX4_sign_18 (by decide) (fun c_1 => ?_) (fun c_1 => ?_)
    · replace h := h.1 c_1
      refine v_iconst C (-1) dX4_sign_30 (by decide) ?_
      exact hret _ _ _ (-1) () h rfl dX4_sign_31
    · replace h := h.2 c_1
      refine v_aload_n C dX4_sign_21 rfl 0 rfl ?_
      refine v_get C iX4_sign_4 tb hT.1 rfl 1 (by decide) mX4_sign_w2 rfl rfl dX4_sign_22 ?_
      refine v_iload_n C dX4_sign_25 rfl 1 rfl ?_
      obtain ⟨hin_1, h⟩ := h
      refine v_iald C (tb + 3) hT.2.2.2 hin_1 dX4_sign_26 ?_
      refine v_goto C 31 dX4_sign_27 (by decide) ?_
      exact hret _ _ _ (t_list a1.toNatClampNeg) () h rfl dX4_sign_31
-- QuarterMasks$Changes.keep
def rmX0_keep : Room := { frames := 2, cells := 0, slots := 0, locals := 62 }
theorem kX0_keep : yX0_keep.cls = RX0 ∧ yX0_keep.cls ≠ "java/lang/invoke/MethodHandle" ∧ yX0_keep.cls ≠ "java/lang/invoke/VarHandle" ∧ (parseMethodDescriptor yX0_keep.desc).map (fun d => d.parameters.length) = some 2 := by decide +kernel
theorem mX0_keep_w1 : Cond.fieldLink RX0 18 "QuarterMasks$Changes" "next" "I" ∈ wsX0_keep := List.mem_of_getElem? (i := 1) rfl
theorem iX0_keep_0 : ∀ w ∈ wsX00, w ∈ wsX0_keep := fun w h => List.mem_cons_of_mem _ (List.mem_append_left _ (List.mem_append_right _ h))
theorem mX0_keep_w2 : Cond.fieldLink RX0 9 "QuarterMasks$Changes" "masks" "[I" ∈ wsX0_keep := List.mem_of_getElem? (i := 2) rfl
theorem mX0_keep_w3 : Cond.fieldLink RX0 15 "QuarterMasks$Changes" "rows" "[I" ∈ wsX0_keep := List.mem_of_getElem? (i := 3) rfl
theorem mX0_keep_w4 : Cond.fieldLink RX0 22 "QuarterMasks$Changes" "known" "I" ∈ wsX0_keep := List.mem_of_getElem? (i := 4) rfl
theorem mX0_keep_w5 : Cond.methodLink RX0 37 Lib.Math.min.name ∈ wsX0_keep := List.mem_of_getElem? (i := 5) rfl
theorem mX0_keep_w6 : Cond.static Lib.Math.min.name ∈ wsX0_keep := List.mem_of_getElem? (i := 6) rfl
theorem mX0_keep_w7 : Cond.initialized "java/lang/Math" ∈ wsX0_keep := List.mem_of_getElem? (i := 7) rfl
theorem mX0_keep_w8 : Cond.code Lib.Math.min.name Lib.Math.min.code 2 (some .int) ∈ wsX0_keep := List.mem_of_getElem? (i := 8) rfl
def wx_Ch_keep_51 (t_known : Int32) (Q : IA → IA → Int32 → Int32 → Prop) (r_1 : Int32) (f_masks_1 : IA) (x4_2 : Int32) (trows_2 : IA) : Prop :=
  ∀ v_next_1 : Int32, v_next_1 = (r_1 + 1) → (∀ v_known_1 : Int32, v_known_1 = (jmin (t_known + 1) 40) → (Q f_masks_1 trows_2 v_next_1 v_known_1))
def wl_Ch_keep_20 (o_rows : IA) (r_1 : Int32) (Kx_1 : Int32 → IA → Prop) : Nat → Int32 → IA → Prop
  | 0, _, _ => False
  | n + 1, x4_1, trows_1 => (16 ≤ x4_1 → (Kx_1 x4_1 trows_1)) ∧ (¬ 16 ≤ x4_1 → (wp_Gr_row o_rows x4_1 (fun r_2 => vp_in ((r_1 * 16) + x4_1) 640 ∧ (∀ f_rows_1 : IA, f_rows_1 = upd trows_1 ((r_1 * 16) + x4_1).toNatClampNeg r_2 → ((wl_Ch_keep_20 o_rows r_1 Kx_1 n) (x4_1 + 1) f_rows_1)))))
def wp_Ch_keep (t_masks : IA) (t_rows : IA) (t_next : Int32) (t_known : Int32) (o_rows : IA) (a1 : Int32) (Q : IA → IA → Int32 → Int32 → Prop) : Prop :=
  wp_Ma_floorMod t_next 40 (fun r_1 => vp_in r_1 40 ∧ (∀ f_masks_1 : IA, f_masks_1 = upd t_masks r_1.toNatClampNeg a1 → (∃ k_1 : Nat, wl_Ch_keep_20 o_rows r_1 (wx_Ch_keep_51 t_known Q r_1 f_masks_1) k_1 0 t_rows)))
set_option maxHeartbeats 4000000 in
theorem c_Ch_keep (l : Launch) (G : GG) (ad : Nat → Nat) (Wd : IA → IA → Int32 → Int32 → va_W) (tb ob : Nat) {o_rows : IA} (hT : cW G ad Wd tb) (hO : ∀ (t_masks : IA) (t_rows : IA) (t_next : Int32) (t_known : Int32), gR G ad (Wd t_masks t_rows t_next t_known) ob o_rows) (t_masks : IA) (t_rows : IA) (t_next : Int32) (t_known : Int32) (a1 : Int32) {Q : IA → IA → Int32 → Int32 → Prop} (h : wp_Ch_keep t_masks t_rows t_next t_known o_rows a1 Q) : qm_MV l yX0_keep wsX0_keep rmX0_keep G [.ref (ad tb), .int a1, .ref (ad ob)] (Wd t_masks t_rows t_next t_known) (fun (u : IA × IA × Int32 × Int32) => Q u.1 u.2.1 u.2.2.1 u.2.2.2) (fun (u : IA × IA × Int32 × Int32) => Wd u.1 u.2.1 u.2.2.1 u.2.2.2) := by
  refine qm_mkV (cc := cX0_keep) (maxL := 5) (by decide) rfl (Nat.le_of_ble_eq_true rfl) ?_
  intro X C hret
  replace C : qm_C G 5 X cX0_keep wsX0_keep RX0 := C
  refine v_lv (lv' := [(0, .ref (ad tb)), (1, .int a1), (2, .ref (ad ob))]) rfl ?_
  unfold wp_Ch_keep at h
  refine v_aload_n C dX0_keep_0 rfl 0 rfl ?_
  refine v_get C iX0_keep_0 tb (hT t_masks t_rows t_next t_known).1.1 rfl 2 (by decide) mX0_keep_w1 rfl rfl dX0_keep_1 ?_
  refine v_bipush C 40 dX0_keep_4 (by decide) ?_
  refine v_callSi C (c_Ma_floorMod l G (Wd t_masks t_rows t_next t_known) t_next 40 h) gX0_keep_J9_floorMod_7cf53 rfl kJ9_floorMod_7cf53 ⟨rfl, rfl⟩ ⟨Nat.le_of_ble_eq_true rfl, Nat.le_of_ble_eq_true rfl⟩ rfl (Nat.le_of_ble_eq_true rfl) dX0_keep_6 (fun r_1 _ h => ?_)
  try dsimp only at h
  refine v_istore_n C [(3, .int r_1), (0, .ref (ad tb)), (1, .int a1), (2, .ref (ad ob))] dX0_keep_9 rfl (by decide) rfl ?_
  refine v_aload_n C dX0_keep_10 rfl 1 rfl ?_
  refine v_get C iX0_keep_0 tb (hT t_masks t_rows t_next t_known).1.1 rfl 0 (by decide) mX0_keep_w2 rfl rfl dX0_keep_11 ?_
  refine v_iload_n C dX0_keep_14 rfl 0 rfl ?_
  refine v_iload_n C dX0_keep_15 rfl 2 rfl ?_
  obtain ⟨hin_1, h⟩ := h
  obtain ⟨f_masks_1, ef_masks_1⟩ : ∃ y : IA, y = upd t_masks r_1.toNatClampNeg a1 := ⟨_, rfl⟩
  replace h := h f_masks_1 ef_masks_1
  refine v_iast C (tb + 1) (hT t_masks t_rows t_next t_known).1.2.1 (ws' := Wd f_masks_1 t_rows t_next t_known) (by subst ef_masks_1; exact ((hT t_masks t_rows t_next t_known).2.1 _)) hin_1 dX0_keep_16 ?_
  refine v_iconst C 0 dX0_keep_17 (by decide) ?_
  refine v_istore C [(4, .int 0), (3, .int r_1), (0, .ref (ad tb)), (1, .int a1), (2, .ref (ad ob))] dX0_keep_18 (by decide) rfl ?_
  have hx_1 : ∀ (x4_2 : Int32) (trows_2 : IA), (wx_Ch_keep_51 t_known Q r_1 f_masks_1) x4_2 trows_2 → qm_V l G rmX0_keep 5 X (Wd f_masks_1 trows_2 t_next t_known) [(4, .int x4_2), (3, .int r_1), (0, .ref (ad tb)), (1, .int a1), (2, .ref (ad ob))] 51 [] := by
    intro x4_2 trows_2 h
    unfold wx_Ch_keep_51 at h
    refine v_aload_n C dX0_keep_51 rfl 2 rfl ?_
    refine v_iload_n C dX0_keep_52 rfl 1 rfl ?_
    refine v_iconst C 1 dX0_keep_53 (by decide) ?_
    refine v_iadd C dX0_keep_54 ?_
    refine v_topi (fun v_next_1 ev_next_1 => ?_)
    replace h := h v_next_1 ev_next_1
    refine v_put C iX0_keep_0 tyX0_ok nmX0 tb (hT f_masks_1 trows_2 t_next t_known).1.1 rfl 2 (by decide) mX0_keep_w1 rfl rfl rfl rfl rfl (Nat.le_of_ble_eq_true rfl) (ws' := Wd f_masks_1 trows_2 v_next_1 t_known) ((hT f_masks_1 trows_2 t_next t_known).2.2.2.1 _) dX0_keep_55 ?_
    refine v_aload_n C dX0_keep_58 rfl 2 rfl ?_
    refine v_aload_n C dX0_keep_59 rfl 2 rfl ?_
    refine v_get C iX0_keep_0 tb (hT f_masks_1 trows_2 v_next_1 t_known).1.1 rfl 3 (by decide) mX0_keep_w4 rfl rfl dX0_keep_60 ?_
    refine v_iconst C 1 dX0_keep_63 (by decide) ?_
    refine v_iadd C dX0_keep_64 ?_
    refine v_bipush C 40 dX0_keep_65 (by decide) ?_
    refine v_mmin C (List.forall_mem_cons.mpr ⟨mX0_keep_w5, List.forall_mem_cons.mpr ⟨mX0_keep_w6, List.forall_mem_cons.mpr ⟨mX0_keep_w7, List.forall_mem_cons.mpr ⟨mX0_keep_w8, fun _ h => absurd h List.not_mem_nil⟩⟩⟩⟩) ⟨Nat.le_of_ble_eq_true rfl, Nat.le_of_ble_eq_true rfl⟩ (Nat.le_of_ble_eq_true rfl) dX0_keep_67 ?_
    refine v_topi (fun v_known_1 ev_known_1 => ?_)
    replace h := h v_known_1 ev_known_1
    refine v_put C iX0_keep_0 tyX0_ok nmX0 tb (hT f_masks_1 trows_2 v_next_1 t_known).1.1 rfl 3 (by decide) mX0_keep_w4 rfl rfl rfl rfl rfl (Nat.le_of_ble_eq_true rfl) (ws' := Wd f_masks_1 trows_2 v_next_1 v_known_1) ((hT f_masks_1 trows_2 v_next_1 t_known).2.2.2.2 _) dX0_keep_70 ?_
    exact hret _ _ _ (f_masks_1, trows_2, v_next_1, v_known_1) h rfl dX0_keep_73
  have hl_1 : ∀ n_1 : Nat, ∀ (x4_1 : Int32) (trows_1 : IA), wl_Ch_keep_20 o_rows r_1 (wx_Ch_keep_51 t_known Q r_1 f_masks_1) n_1 x4_1 trows_1 → qm_V l G rmX0_keep 5 X (Wd f_masks_1 trows_1 t_next t_known) [(4, .int x4_1), (3, .int r_1), (0, .ref (ad tb)), (1, .int a1), (2, .ref (ad ob))] 20 [] := by
    intro n_1
    induction n_1 with
    | zero =>
      intro x4_1 trows_1 h
      exact False.elim h
    | succ n_1 ih_1 =>
      intro x4_1 trows_1 h
      rw [wl_Ch_keep_20] at h
      refine v_iload C dX0_keep_20 0 rfl ?_
      refine v_bipush C 16 dX0_keep_22 (by decide) ?_
      refine v_icmp_ge C 51 dX0_keep_24 (by decide) (fun c_1 => ?_) (fun c_1 => ?_)
      · replace h := h.1 c_1
        exact hx_1 x4_1 trows_1 h
      · replace h := h.2 c_1
        refine v_aload_n C dX0_keep_27 rfl 2 rfl ?_
        refine v_get C iX0_keep_0 tb (hT f_masks_1 trows_1 t_next t_known).1.1 rfl 1 (by decide) mX0_keep_w3 rfl rfl dX0_keep_28 ?_
        refine v_iload_n C dX0_keep_31 rfl 1 rfl ?_
        refine v_bipush C 16 dX0_keep_32 (by decide) ?_
        refine v_imul C dX0_keep_34 ?_
        refine v_iload C dX0_keep_35 0 rfl ?_
        refine v_iadd C dX0_keep_37 ?_
        refine v_aload_n C dX0_keep_38 rfl 4 rfl ?_
        refine v_iload C dX0_keep_39 0 rfl ?_
        refine v_callVi C (c_Gr_row l G ad (Wd f_masks_1 trows_1 t_next t_known) ob (hO f_masks_1 trows_1 t_next t_known)  x4_1 h) ob (hO f_masks_1 trows_1 t_next t_known).1 rfl gX0_keep_X1_row rfl kX1_row ⟨rfl, rfl⟩ ⟨Nat.le_of_ble_eq_true rfl, Nat.le_of_ble_eq_true rfl⟩ rfl (Nat.le_of_ble_eq_true rfl) dX0_keep_41 (fun r_2 _ h => ?_)
        try dsimp only at h
        obtain ⟨hin_2, h⟩ := h
        obtain ⟨f_rows_1, ef_rows_1⟩ : ∃ y : IA, y = upd trows_1 ((r_1 * 16) + x4_1).toNatClampNeg r_2 := ⟨_, rfl⟩
        replace h := h f_rows_1 ef_rows_1
        refine v_iast C (tb + 2) (hT f_masks_1 trows_1 t_next t_known).1.2.2 (ws' := Wd f_masks_1 f_rows_1 t_next t_known) (by subst ef_rows_1; exact ((hT f_masks_1 trows_1 t_next t_known).2.2.1 _)) hin_2 dX0_keep_44 ?_
        refine v_iinc C (x4_1 + 1) 0 [(4, .int (x4_1 + 1)), (3, .int r_1), (0, .ref (ad tb)), (1, .int a1), (2, .ref (ad ob))] dX0_keep_45 rfl rfl (by decide) rfl ?_
        refine v_goto C 20 dX0_keep_48 (by decide) ?_
        exact ih_1 (x4_1 + 1) f_rows_1 h
  obtain ⟨k_1, h⟩ := h
  exact hl_1 k_1 0 t_rows h
-- QuarterMasks$Changes.undo
def rmX0_undo : Room := { frames := 3, cells := 0, slots := 0, locals := 83 }
theorem kX0_undo : yX0_undo.cls = RX0 ∧ yX0_undo.cls ≠ "java/lang/invoke/MethodHandle" ∧ yX0_undo.cls ≠ "java/lang/invoke/VarHandle" ∧ (parseMethodDescriptor yX0_undo.desc).map (fun d => d.parameters.length) = some 1 := by decide +kernel
theorem mX0_undo_w1 : Cond.fieldLink RX0 22 "QuarterMasks$Changes" "known" "I" ∈ wsX0_undo := List.mem_of_getElem? (i := 1) rfl
theorem iX0_undo_0 : ∀ w ∈ wsX00, w ∈ wsX0_undo := fun w h => List.mem_cons_of_mem _ (List.mem_append_left _ (List.mem_append_right _ h))
theorem mX0_undo_w2 : Cond.fieldLink RX0 18 "QuarterMasks$Changes" "next" "I" ∈ wsX0_undo := List.mem_of_getElem? (i := 2) rfl
theorem mX0_undo_w4 : Cond.fieldLink RX0 9 "QuarterMasks$Changes" "masks" "[I" ∈ wsX0_undo := List.mem_of_getElem? (i := 4) rfl
theorem mX0_undo_w3 : Cond.fieldLink RX0 15 "QuarterMasks$Changes" "rows" "[I" ∈ wsX0_undo := List.mem_of_getElem? (i := 3) rfl
def wl_Ch_undo_36 (t_masks : IA) (t_rows : IA) (Q : Int32 → Int32 → Int32 → IA → Prop) (r_1 : Int32) (v_known_1 : Int32) : Nat → Int32 → IA → Prop
  | 0, _, _ => False
  | n + 1, x2_1, orows_1 => (16 ≤ x2_1 → (vp_in r_1 40 ∧ (Q (t_masks r_1.toNatClampNeg) r_1 v_known_1 orows_1))) ∧ (¬ 16 ≤ x2_1 → (vp_in ((r_1 * 16) + x2_1) 640 ∧ (wp_Gr_setRow orows_1 x2_1 (t_rows ((r_1 * 16) + x2_1).toNatClampNeg) (fun m_rows_1 => (wl_Ch_undo_36 t_masks t_rows Q r_1 v_known_1 n) (x2_1 + 1) m_rows_1))))
def wp_Ch_undo (t_masks : IA) (t_rows : IA) (t_next : Int32) (t_known : Int32) (o_rows : IA)  (Q : Int32 → Int32 → Int32 → IA → Prop) : Prop :=
  (t_known = 0 → (Q (-1) t_next t_known o_rows)) ∧ (¬ t_known = 0 → (wp_Ma_floorMod (t_next - 1) 40 (fun r_1 => ∀ v_known_1 : Int32, v_known_1 = (t_known - 1) → (∃ k_1 : Nat, wl_Ch_undo_36 t_masks t_rows Q r_1 v_known_1 k_1 0 o_rows))))
set_option maxHeartbeats 4000000 in
theorem c_Ch_undo (l : Launch) (G : GG) (ad : Nat → Nat) (Wd : IA → IA → Int32 → Int32 → IA → va_W) (tb ob : Nat)  (hT : ∀ (o_rows : IA), cW G ad (fun t_masks t_rows t_next t_known => Wd t_masks t_rows t_next t_known o_rows) tb) (hO : ∀ (t_masks : IA) (t_rows : IA) (t_next : Int32) (t_known : Int32), gW G ad (fun o_rows => Wd t_masks t_rows t_next t_known o_rows) ob) (t_masks : IA) (t_rows : IA) (t_next : Int32) (t_known : Int32) (o_rows : IA)  {Q : Int32 → Int32 → Int32 → IA → Prop} (h : wp_Ch_undo t_masks t_rows t_next t_known o_rows Q) : qm_MI l yX0_undo wsX0_undo rmX0_undo G [.ref (ad tb), .ref (ad ob)] (Wd t_masks t_rows t_next t_known o_rows) (fun (r : Int32) (u : Int32 × Int32 × IA) => Q r u.1 u.2.1 u.2.2) (fun (u : Int32 × Int32 × IA) => Wd t_masks t_rows u.1 u.2.1 u.2.2) := by
  refine qm_mkI (cc := cX0_undo) (maxL := 3) (by decide) rfl (Nat.le_of_ble_eq_true rfl) ?_
  intro X C hret
  replace C : qm_C G 3 X cX0_undo wsX0_undo RX0 := C
  refine v_lv (lv' := [(0, .ref (ad tb)), (1, .ref (ad ob))]) rfl ?_
  unfold wp_Ch_undo at h
  refine v_aload_n C dX0_undo_0 rfl 0 rfl ?_
  refine v_get C iX0_undo_0 tb (hT o_rows t_masks t_rows t_next t_known).1.1 rfl 3 (by decide) mX0_undo_w1 rfl rfl dX0_undo_1 ?_
  refine v_if_ne C 9 dX0_undo_4 (by decide) (fun c_2 => ?_) (fun c_2 => ?_)
  · replace h := h.2 c_2
    refine v_aload_n C dX0_undo_9 rfl 0 rfl ?_
    refine v_aload_n C dX0_undo_10 rfl 0 rfl ?_
    refine v_get C iX0_undo_0 tb (hT o_rows t_masks t_rows t_next t_known).1.1 rfl 2 (by decide) mX0_undo_w2 rfl rfl dX0_undo_11 ?_
    refine v_iconst C 1 dX0_undo_14 (by decide) ?_
    refine v_isub C dX0_undo_15 ?_
    refine v_bipush C 40 dX0_undo_16 (by decide) ?_
    refine v_callSi C (c_Ma_floorMod l G (Wd t_masks t_rows t_next t_known o_rows) (t_next - 1) 40 h) gX0_undo_J9_floorMod_7cf53 rfl kJ9_floorMod_7cf53 ⟨rfl, rfl⟩ ⟨Nat.le_of_ble_eq_true rfl, Nat.le_of_ble_eq_true rfl⟩ rfl (Nat.le_of_ble_eq_true rfl) dX0_undo_18 (fun r_1 _ h => ?_)
    try dsimp only at h
    refine v_put C iX0_undo_0 tyX0_ok nmX0 tb (hT o_rows t_masks t_rows t_next t_known).1.1 rfl 2 (by decide) mX0_undo_w2 rfl rfl rfl rfl rfl (Nat.le_of_ble_eq_true rfl) (ws' := Wd t_masks t_rows r_1 t_known o_rows) ((hT o_rows t_masks t_rows t_next t_known).2.2.2.1 _) dX0_undo_21 ?_
    refine v_aload_n C dX0_undo_24 rfl 0 rfl ?_
    refine v_dup C dX0_undo_25 rfl ?_
    refine v_get C iX0_undo_0 tb (hT o_rows t_masks t_rows r_1 t_known).1.1 rfl 3 (by decide) mX0_undo_w1 rfl rfl dX0_undo_26 ?_
    refine v_iconst C 1 dX0_undo_29 (by decide) ?_
    refine v_isub C dX0_undo_30 ?_
    refine v_topi (fun v_known_1 ev_known_1 => ?_)
    replace h := h v_known_1 ev_known_1
    refine v_put C iX0_undo_0 tyX0_ok nmX0 tb (hT o_rows t_masks t_rows r_1 t_known).1.1 rfl 3 (by decide) mX0_undo_w1 rfl rfl rfl rfl rfl (Nat.le_of_ble_eq_true rfl) (ws' := Wd t_masks t_rows r_1 v_known_1 o_rows) ((hT o_rows t_masks t_rows r_1 t_known).2.2.2.2 _) dX0_undo_31 ?_
    refine v_iconst C 0 dX0_undo_34 (by decide) ?_
    refine v_istore_n C [(2, .int 0), (0, .ref (ad tb)), (1, .ref (ad ob))] dX0_undo_35 rfl (by decide) rfl ?_
    have hl_1 : ∀ n_1 : Nat, ∀ (x2_1 : Int32) (orows_1 : IA), wl_Ch_undo_36 t_masks t_rows Q r_1 v_known_1 n_1 x2_1 orows_1 → qm_V l G rmX0_undo 3 X (Wd t_masks t_rows r_1 v_known_1 orows_1) [(2, .int x2_1), (0, .ref (ad tb)), (1, .ref (ad ob))] 36 [] := by
      intro n_1
      induction n_1 with
      | zero =>
        intro x2_1 orows_1 h
        exact False.elim h
      | succ n_1 ih_1 =>
        intro x2_1 orows_1 h
        rw [wl_Ch_undo_36] at h
        refine v_iload_n C dX0_undo_36 rfl 0 rfl ?_
        refine v_bipush C 16 dX0_undo_37 (by decide) ?_
        refine v_icmp_ge C 67 dX0_undo_39 (by decide) (fun c_1 => ?_) (fun c_1 => ?_)
        · replace h := h.1 c_1
          refine v_aload_n C dX0_undo_67 rfl 1 rfl ?_
          refine v_get C iX0_undo_0 tb (hT orows_1 t_masks t_rows r_1 v_known_1).1.1 rfl 0 (by decide) mX0_undo_w4 rfl rfl dX0_undo_68 ?_
          refine v_aload_n C dX0_undo_71 rfl 1 rfl ?_
          refine v_get C iX0_undo_0 tb (hT orows_1 t_masks t_rows r_1 v_known_1).1.1 rfl 2 (by decide) mX0_undo_w2 rfl rfl dX0_undo_72 ?_
          obtain ⟨hin_1, h⟩ := h
          refine v_iald C (tb + 1) (hT orows_1 t_masks t_rows r_1 v_known_1).1.2.1 hin_1 dX0_undo_75 ?_
          exact hret _ _ _ (t_masks r_1.toNatClampNeg) (r_1, v_known_1, orows_1) h rfl dX0_undo_76
        · replace h := h.2 c_1
          refine v_aload_n C dX0_undo_42 rfl 2 rfl ?_
          refine v_iload_n C dX0_undo_43 rfl 0 rfl ?_
          refine v_aload_n C dX0_undo_44 rfl 1 rfl ?_
          refine v_get C iX0_undo_0 tb (hT orows_1 t_masks t_rows r_1 v_known_1).1.1 rfl 1 (by decide) mX0_undo_w3 rfl rfl dX0_undo_45 ?_
          refine v_aload_n C dX0_undo_48 rfl 1 rfl ?_
          refine v_get C iX0_undo_0 tb (hT orows_1 t_masks t_rows r_1 v_known_1).1.1 rfl 2 (by decide) mX0_undo_w2 rfl rfl dX0_undo_49 ?_
          refine v_bipush C 16 dX0_undo_52 (by decide) ?_
          refine v_imul C dX0_undo_54 ?_
          refine v_iload_n C dX0_undo_55 rfl 0 rfl ?_
          refine v_iadd C dX0_undo_56 ?_
          obtain ⟨hin_2, h⟩ := h
          refine v_iald C (tb + 2) (hT orows_1 t_masks t_rows r_1 v_known_1).1.2.2 hin_2 dX0_undo_57 ?_
          refine v_callVv C (c_Gr_setRow l G ad (fun y0 => Wd t_masks t_rows r_1 v_known_1 y0) ob (hO t_masks t_rows r_1 v_known_1) orows_1 x2_1 (t_rows ((r_1 * 16) + x2_1).toNatClampNeg) h) ob (hO t_masks t_rows r_1 v_known_1 orows_1).1.1 rfl gX0_undo_X1_setRow rfl kX1_setRow ⟨rfl, rfl⟩ ⟨Nat.le_of_ble_eq_true rfl, Nat.le_of_ble_eq_true rfl⟩ rfl (Nat.le_of_ble_eq_true rfl) dX0_undo_58 (fun m_rows_1 h => ?_)
          try dsimp only at h
          refine v_world (ws' := Wd t_masks t_rows r_1 v_known_1 m_rows_1) rfl ?_
          refine v_iinc C (x2_1 + 1) 0 [(2, .int (x2_1 + 1)), (0, .ref (ad tb)), (1, .ref (ad ob))] dX0_undo_61 rfl rfl (by decide) rfl ?_
          refine v_goto C 36 dX0_undo_64 (by decide) ?_
          exact ih_1 (x2_1 + 1) m_rows_1 h
    obtain ⟨k_1, h⟩ := h
    exact hl_1 k_1 0 o_rows h
  · replace h := h.1 c_2
    refine v_iconst C (-1) dX0_undo_7 (by decide) ?_
    exact hret _ _ _ (-1) (t_next, t_known, o_rows) h rfl dX0_undo_8
-- QuarterMasks.readSquare
def rmX5_readSquare (dd : Nat) : Room := { frames := 4 + dd, cells := 0, slots := 0, locals := 110 + 29 * dd }
theorem kX5_readSquare : yX5_readSquare.cls ≠ "java/lang/invoke/MethodHandle" ∧ yX5_readSquare.cls ≠ "java/lang/invoke/VarHandle" ∧ (parseMethodDescriptor yX5_readSquare.desc).map (fun d => d.parameters.length) = some 6 := by decide +kernel
theorem iX5_readSquare_3 : ∀ w ∈ wsX30, w ∈ wsX5_readSquare := fun w h => List.mem_cons_of_mem _ (List.mem_append_left _ (List.mem_append_right _ h))
def wj_Qm_readSquare_28 (o_rows : IA) (a1 : Int32) (a3 : Int32) (a4 : Int32) (a5 : Int32) (Q : Int32 → IA → Prop) (r_1 : Int32) : Prop :=
  wp_Gr_paint o_rows a3 a4 a5 a5 r_1 (fun m_rows_1 => Q (a1 + 1) m_rows_1)
def wl_Qm_readSquare_73 (t_items : IA) (t_lost : Int32) (t_form : Int32) (t_size : Int32) (a3 : Int32) (a4 : Int32) (Q : Int32 → IA → Prop) (REC : IA → Int32 → Int32 → Int32 → IA → Int32 → Int32 → Int32 → Int32 → (Int32 → IA → Prop) → Prop) (x7_1 : Int32) : Nat → Int32 → Int32 → IA → Prop
  | 0, _, _, _ => False
  | n + 1, x9_1, x8_2, orows_1 => (4 ≤ x9_1 → (Q x8_2 orows_1)) ∧ (¬ 4 ≤ x9_1 → ((x8_2 = (-1) → (Q x8_2 orows_1)) ∧ (¬ x8_2 = (-1) → (REC t_items t_lost t_form t_size orows_1 x8_2 (a3 + ((jrem x9_1 2) * x7_1)) (a4 + ((x9_1 / 2) * x7_1)) x7_1 (fun r_2 m_rows_2 => (wl_Qm_readSquare_73 t_items t_lost t_form t_size a3 a4 Q REC x7_1 n) (x9_1 + 1) r_2 m_rows_2)))))
def wb_Qm_readSquare (REC : IA → Int32 → Int32 → Int32 → IA → Int32 → Int32 → Int32 → Int32 → (Int32 → IA → Prop) → Prop) (t_items : IA) (t_lost : Int32) (t_form : Int32) (t_size : Int32) (o_rows : IA) (a1 : Int32) (a3 : Int32) (a4 : Int32) (a5 : Int32) (Q : Int32 → IA → Prop) : Prop :=
  (a1 < t_size → (wp_Sh_item t_items t_size a1 (fun r_1 => jn (wj_Qm_readSquare_28 o_rows a1 a3 a4 a5 Q r_1) (fun K_1 : Prop => (r_1 = 0 → (K_1)) ∧ (¬ r_1 = 0 → ((r_1 = 1 → (K_1)) ∧ (¬ r_1 = 1 → ((r_1 = 2 → ((1 < a5 → (∀ x7_1 : Int32, x7_1 = (a5 / 2) → (∀ x8_1 : Int32, x8_1 = (a1 + 1) → (∃ k_1 : Nat, wl_Qm_readSquare_73 t_items t_lost t_form t_size a3 a4 Q REC x7_1 k_1 0 x8_1 o_rows)))) ∧ (¬ 1 < a5 → (Q (-1) o_rows)))) ∧ (¬ r_1 = 2 → (Q (-1) o_rows)))))))))) ∧ (¬ a1 < t_size → (Q (-1) o_rows))
def wp_Qm_readSquare : Nat → IA → Int32 → Int32 → Int32 → IA → Int32 → Int32 → Int32 → Int32 → (Int32 → IA → Prop) → Prop
  | 0, _, _, _, _, _, _, _, _, _, _ => False
  | dd + 1, t_items, t_lost, t_form, t_size, o_rows, a1, a3, a4, a5, Q => wb_Qm_readSquare (wp_Qm_readSquare dd) t_items t_lost t_form t_size o_rows a1 a3 a4 a5 Q
set_option maxHeartbeats 4000000 in
theorem c_Qm_readSquare (l : Launch) (G : GG) (ad : Nat → Nat) (Wd : IA → va_W) (tb ob : Nat) {t_items : IA} {t_lost : Int32} {t_form : Int32} {t_size : Int32} (hT : ∀ (o_rows : IA), sR G ad (Wd o_rows) tb t_items t_lost t_form t_size) (hO : gW G ad Wd ob) : ∀ (dd : Nat) (o_rows : IA) (a1 : Int32) (a3 : Int32) (a4 : Int32) (a5 : Int32) {Q : Int32 → IA → Prop} (h : wp_Qm_readSquare dd t_items t_lost t_form t_size o_rows a1 a3 a4 a5 Q), qm_MI l yX5_readSquare wsX5_readSquare (rmX5_readSquare dd) G [.ref (ad tb), .int a1, .ref (ad ob), .int a3, .int a4, .int a5] (Wd o_rows) (fun (r : Int32) (u : IA) => Q r u) (fun (u : IA) => Wd u) := by
  intro dd
  induction dd with
  | zero =>
    intro o_rows a1 a3 a4 a5 Q h
    exact False.elim h
  | succ dd ihd =>
    intro o_rows a1 a3 a4 a5 Q h
    refine qm_mkI (cc := cX5_readSquare) (maxL := 10) (by decide) rfl (Nat.le_of_ble_eq_true rfl) ?_
    intro X C hret
    replace C : qm_C G 10 X cX5_readSquare wsX5_readSquare RX5 := C
    refine v_lv (lv' := [(0, .ref (ad tb)), (1, .int a1), (2, .ref (ad ob)), (3, .int a3), (4, .int a4), (5, .int a5)]) rfl ?_
    rw [wp_Qm_readSquare] at h
    unfold wb_Qm_readSquare at h
    refine v_iload_n C dX5_readSquare_0 rfl 1 rfl ?_
    refine v_aload_n C dX5_readSquare_1 rfl 0 rfl ?_
    refine v_getN C iX5_readSquare_3 tb (hT o_rows).1 rfl 3 (by decide) (fun _ h => h.2.2.2.2.2.2.2.2.2.2.2.2.2.1) rfl rfl dX5_readSquare_2 ?_
    refine v_icmp_lt C 10 dX5_readSquare_5 (by decide) (fun c_7 => ?_) (fun c_7 => ?_)
    · replace h := h.1 c_7
      refine v_aload_n C dX5_readSquare_10 rfl 0 rfl ?_
      refine v_iload_n C dX5_readSquare_11 rfl 1 rfl ?_
      refine v_callVi C (c_Sh_item l G ad (Wd o_rows) tb (hT o_rows)  a1 h) tb (hT o_rows).1 rfl gX5_readSquare_X3_item rfl kX3_item ⟨rfl, rfl⟩ ⟨by simp only [rmX5_readSquare, rmX3_item]; omega, by simp only [rmX5_readSquare, rmX3_item]; omega⟩ rfl (Nat.le_of_ble_eq_true rfl) dX5_readSquare_12 (fun r_1 _ h => ?_)
      try dsimp only at h
      refine v_istore C [(6, .int r_1), (0, .ref (ad tb)), (1, .int a1), (2, .ref (ad ob)), (3, .int a3), (4, .int a4), (5, .int a5)] dX5_readSquare_15 (by decide) rfl ?_
      refine v_iload C dX5_readSquare_17 0 rfl ?_
      have hJ_1 : (wj_Qm_readSquare_28 o_rows a1 a3 a4 a5 Q r_1) → qm_V l G (rmX5_readSquare (dd + 1)) 10 X (Wd o_rows) [(6, .int r_1), (0, .ref (ad tb)), (1, .int a1), (2, .ref (ad ob)), (3, .int a3), (4, .int a4), (5, .int a5)] 28 [] := by
        intro h
        unfold wj_Qm_readSquare_28 at h
        refine v_aload_n C dX5_readSquare_28 rfl 3 rfl ?_
        refine v_iload_n C dX5_readSquare_29 rfl 4 rfl ?_
        refine v_iload C dX5_readSquare_30 5 rfl ?_
        refine v_iload C dX5_readSquare_32 6 rfl ?_
        refine v_iload C dX5_readSquare_34 6 rfl ?_
        refine v_iload C dX5_readSquare_36 0 rfl ?_
        refine v_callVv C (c_Gr_paint l G ad (fun y0 => Wd y0) ob hO o_rows a3 a4 a5 a5 r_1 h) ob (hO o_rows).1.1 rfl gX5_readSquare_X1_paint rfl kX1_paint ⟨rfl, rfl⟩ ⟨by simp only [rmX5_readSquare, rmX1_paint]; omega, by simp only [rmX5_readSquare, rmX1_paint]; omega⟩ rfl (Nat.le_of_ble_eq_true rfl) dX5_readSquare_38 (fun m_rows_1 h => ?_)
        try dsimp only at h
        refine v_world (ws' := Wd m_rows_1) rfl ?_
        refine v_iload_n C dX5_readSquare_41 rfl 2 rfl ?_
        refine v_iconst C 1 dX5_readSquare_42 (by decide) ?_
        refine v_iadd C dX5_readSquare_43 ?_
        exact hret _ _ _ (a1 + 1) m_rows_1 h rfl dX5_readSquare_44
      replace h := jn_use h
      try dsimp only at h
      refine v_if_eq C 28 dX5_readSquare_19 (by decide) (fun c_6 => ?_) (fun c_6 => ?_)
      · replace h := h.1 c_6
        exact hJ_1 h
      · replace h := h.2 c_6
        refine v_iload C dX5_readSquare_22 0 rfl ?_
        refine v_iconst C 1 dX5_readSquare_24 (by decide) ?_
        refine v_icmp_ne C 45 dX5_readSquare_25 (by decide) (fun c_5 => ?_) (fun c_5 => ?_)
        · replace h := h.2 c_5
          refine v_iload C dX5_readSquare_45 0 rfl ?_
          refine v_iconst C 2 dX5_readSquare_47 (by decide) ?_
          refine v_icmp_ne C 57 dX5_readSquare_48 (by decide) (fun c_4 => ?_) (fun c_4 => ?_)
          · replace h := h.2 c_4
            refine v_iconst C (-1) dX5_readSquare_57 (by decide) ?_
            exact hret _ _ _ (-1) o_rows h rfl dX5_readSquare_58
          · replace h := h.1 c_4
            refine v_iload C dX5_readSquare_51 6 rfl ?_
            refine v_iconst C 1 dX5_readSquare_53 (by decide) ?_
            refine v_icmp_gt C 59 dX5_readSquare_54 (by decide) (fun c_3 => ?_) (fun c_3 => ?_)
            · replace h := h.1 c_3
              refine v_iload C dX5_readSquare_59 6 rfl ?_
              refine v_iconst C 2 dX5_readSquare_61 (by decide) ?_
              refine v_idiv C dX5_readSquare_62 (by decide) ?_
              refine v_topi (fun x7_1 ex7_1 => ?_)
              replace h := h x7_1 ex7_1
              refine v_istore C [(7, .int x7_1), (6, .int r_1), (0, .ref (ad tb)), (1, .int a1), (2, .ref (ad ob)), (3, .int a3), (4, .int a4), (5, .int a5)] dX5_readSquare_63 (by decide) rfl ?_
              refine v_iload_n C dX5_readSquare_65 rfl 3 rfl ?_
              refine v_iconst C 1 dX5_readSquare_66 (by decide) ?_
              refine v_iadd C dX5_readSquare_67 ?_
              refine v_topi (fun x8_1 ex8_1 => ?_)
              replace h := h x8_1 ex8_1
              refine v_istore C [(8, .int x8_1), (7, .int x7_1), (6, .int r_1), (0, .ref (ad tb)), (1, .int a1), (2, .ref (ad ob)), (3, .int a3), (4, .int a4), (5, .int a5)] dX5_readSquare_68 (by decide) rfl ?_
              refine v_iconst C 0 dX5_readSquare_70 (by decide) ?_
              refine v_istore C [(9, .int 0), (8, .int x8_1), (7, .int x7_1), (6, .int r_1), (0, .ref (ad tb)), (1, .int a1), (2, .ref (ad ob)), (3, .int a3), (4, .int a4), (5, .int a5)] dX5_readSquare_71 (by decide) rfl ?_
              have hl_1 : ∀ n_1 : Nat, ∀ (x9_1 : Int32) (x8_2 : Int32) (orows_1 : IA), wl_Qm_readSquare_73 t_items t_lost t_form t_size a3 a4 Q (wp_Qm_readSquare dd) x7_1 n_1 x9_1 x8_2 orows_1 → qm_V l G (rmX5_readSquare (dd + 1)) 10 X (Wd orows_1) [(9, .int x9_1), (8, .int x8_2), (7, .int x7_1), (6, .int r_1), (0, .ref (ad tb)), (1, .int a1), (2, .ref (ad ob)), (3, .int a3), (4, .int a4), (5, .int a5)] 73 [] := by
                intro n_1
                induction n_1 with
                | zero =>
                  intro x9_1 x8_2 orows_1 h
                  exact False.elim h
                | succ n_1 ih_1 =>
                  intro x9_1 x8_2 orows_1 h
                  rw [wl_Qm_readSquare_73] at h
                  refine v_iload C dX5_readSquare_73 0 rfl ?_
                  refine v_iconst C 4 dX5_readSquare_75 (by decide) ?_
                  refine v_icmp_ge C 121 dX5_readSquare_76 (by decide) (fun c_2 => ?_) (fun c_2 => ?_)
                  · replace h := h.1 c_2
                    refine v_iload C dX5_readSquare_121 1 rfl ?_
                    exact hret _ _ _ x8_2 orows_1 h rfl dX5_readSquare_123
                  · replace h := h.2 c_2
                    refine v_iload C dX5_readSquare_79 1 rfl ?_
                    refine v_iconst C (-1) dX5_readSquare_81 (by decide) ?_
                    refine v_icmp_eq C 121 dX5_readSquare_82 (by decide) (fun c_1 => ?_) (fun c_1 => ?_)
                    · replace h := h.1 c_1
                      refine v_iload C dX5_readSquare_121 1 rfl ?_
                      exact hret _ _ _ x8_2 orows_1 h rfl dX5_readSquare_123
                    · replace h := h.2 c_1
                      refine v_aload_n C dX5_readSquare_85 rfl 4 rfl ?_
                      refine v_iload C dX5_readSquare_86 1 rfl ?_
                      refine v_aload_n C dX5_readSquare_88 rfl 6 rfl ?_
                      refine v_iload_n C dX5_readSquare_89 rfl 7 rfl ?_
                      refine v_iload C dX5_readSquare_90 0 rfl ?_
                      refine v_iconst C 2 dX5_readSquare_92 (by decide) ?_
                      refine v_irem C dX5_readSquare_93 (by decide) ?_
                      refine v_iload C dX5_readSquare_94 2 rfl ?_
                      refine v_imul C dX5_readSquare_96 ?_
                      refine v_iadd C dX5_readSquare_97 ?_
                      refine v_iload C dX5_readSquare_98 8 rfl ?_
                      refine v_iload C dX5_readSquare_100 0 rfl ?_
                      refine v_iconst C 2 dX5_readSquare_102 (by decide) ?_
                      refine v_idiv C dX5_readSquare_103 (by decide) ?_
                      refine v_iload C dX5_readSquare_104 2 rfl ?_
                      refine v_imul C dX5_readSquare_106 ?_
                      refine v_iadd C dX5_readSquare_107 ?_
                      refine v_iload C dX5_readSquare_108 2 rfl ?_
                      refine v_callSi C (ihd orows_1 x8_2 (a3 + ((jrem x9_1 2) * x7_1)) (a4 + ((x9_1 / 2) * x7_1)) x7_1 h) gX5_readSquare_X5_readSquare rfl kX5_readSquare ⟨rfl, rfl⟩ ⟨by simp only [rmX5_readSquare]; omega, by simp only [rmX5_readSquare]; omega⟩ rfl (Nat.le_of_ble_eq_true rfl) dX5_readSquare_110 (fun r_2 m_rows_2 h => ?_)
                      try dsimp only at h
                      refine v_world (ws' := Wd m_rows_2) rfl ?_
                      refine v_istore C [(8, .int r_2), (9, .int x9_1), (7, .int x7_1), (6, .int r_1), (0, .ref (ad tb)), (1, .int a1), (2, .ref (ad ob)), (3, .int a3), (4, .int a4), (5, .int a5)] dX5_readSquare_113 (by decide) rfl ?_
                      refine v_iinc C (x9_1 + 1) 1 [(9, .int (x9_1 + 1)), (8, .int r_2), (7, .int x7_1), (6, .int r_1), (0, .ref (ad tb)), (1, .int a1), (2, .ref (ad ob)), (3, .int a3), (4, .int a4), (5, .int a5)] dX5_readSquare_115 rfl rfl (by decide) rfl ?_
                      refine v_goto C 73 dX5_readSquare_118 (by decide) ?_
                      exact ih_1 (x9_1 + 1) r_2 m_rows_2 h
              obtain ⟨k_1, h⟩ := h
              exact hl_1 k_1 0 x8_1 o_rows h
            · replace h := h.2 c_3
              refine v_iconst C (-1) dX5_readSquare_57 (by decide) ?_
              exact hret _ _ _ (-1) o_rows h rfl dX5_readSquare_58
        · replace h := h.1 c_5
          exact hJ_1 h
    · replace h := h.2 c_7
      refine v_iconst C (-1) dX5_readSquare_8 (by decide) ?_
      exact hret _ _ _ (-1) o_rows h rfl dX5_readSquare_9
-- QuarterMasks.findingAt
def rmX5_findingAt : Room := { frames := 2, cells := 0, slots := 0, locals := 61 }
theorem kX5_findingAt : yX5_findingAt.cls ≠ "java/lang/invoke/MethodHandle" ∧ yX5_findingAt.cls ≠ "java/lang/invoke/VarHandle" ∧ (parseMethodDescriptor yX5_findingAt.desc).map (fun d => d.parameters.length) = some 3 := by decide +kernel
theorem iX5_findingAt_3 : ∀ w ∈ wsX30, w ∈ wsX5_findingAt := fun w h => List.mem_cons_of_mem _ (List.mem_append_right _ h)
def wp_Qm_findingAt (t_lost : Int32) (t_form : Int32) (t_size : Int32) (a1 : Int32) (a2 : Int32) (Q : Int32 → Prop) : Prop :=
  (t_lost = 0 → ((t_form = a1 → (wp_Qm_within a2 t_size (fun r_1 => (r_1 = 0 → (Q 2)) ∧ (¬ r_1 = 0 → (Q 0))))) ∧ (¬ t_form = a1 → (Q 3)))) ∧ (¬ t_lost = 0 → (Q 1))
set_option maxHeartbeats 4000000 in
theorem c_Qm_findingAt (l : Launch) (G : GG) (ad : Nat → Nat) (ws : va_W) (tb : Nat) {t_items : IA} {t_lost : Int32} {t_form : Int32} {t_size : Int32} (hT : sR G ad ws tb t_items t_lost t_form t_size)  (a1 : Int32) (a2 : Int32) {Q : Int32 → Prop} (h : wp_Qm_findingAt t_lost t_form t_size a1 a2 Q) : qm_MI l yX5_findingAt wsX5_findingAt rmX5_findingAt G [.ref (ad tb), .int a1, .int a2] (ws) (fun (r : Int32) (_ : Unit) => Q r) (fun (_ : Unit) => ws) := by
  refine qm_mkI (cc := cX5_findingAt) (maxL := 3) (by decide) rfl (Nat.le_of_ble_eq_true rfl) ?_
  intro X C hret
  replace C : qm_C G 3 X cX5_findingAt wsX5_findingAt RX5 := C
  refine v_lv (lv' := [(0, .ref (ad tb)), (1, .int a1), (2, .int a2)]) rfl ?_
  unfold wp_Qm_findingAt at h
  refine v_aload_n C dX5_findingAt_0 rfl 0 rfl ?_
  refine v_getN C iX5_findingAt_3 tb hT.1 rfl 1 (by decide) (fun _ h => h.2.2.2.2.2.2.2.2.2.2.2.1) rfl rfl dX5_findingAt_1 ?_
  refine v_if_eq C 9 dX5_findingAt_4 (by decide) (fun c_3 => ?_) (fun c_3 => ?_)
  · replace h := h.1 c_3
    refine v_aload_n C dX5_findingAt_9 rfl 0 rfl ?_
    refine v_getN C iX5_findingAt_3 tb hT.1 rfl 2 (by decide) (fun _ h => h.2.2.2.2.2.2.2.2.2.2.2.2.1) rfl rfl dX5_findingAt_10 ?_
    refine v_iload_n C dX5_findingAt_13 rfl 1 rfl ?_
    refine v_icmp_eq C 19 dX5_findingAt_14 (by decide) (fun c_2 => ?_) (fun c_2 => ?_)
    · replace h := h.1 c_2
      refine v_iload_n C dX5_findingAt_19 rfl 2 rfl ?_
      refine v_aload_n C dX5_findingAt_20 rfl 0 rfl ?_
      refine v_getN C iX5_findingAt_3 tb hT.1 rfl 3 (by decide) (fun _ h => h.2.2.2.2.2.2.2.2.2.2.2.2.2.1) rfl rfl dX5_findingAt_21 ?_
      refine v_callSi C (c_Qm_within l G (ws) a2 t_size h) gX5_findingAt_X5_within rfl kX5_within ⟨rfl, rfl⟩ ⟨Nat.le_of_ble_eq_true rfl, Nat.le_of_ble_eq_true rfl⟩ rfl (Nat.le_of_ble_eq_true rfl) dX5_findingAt_24 (fun r_1 _ h => ?_)
      try dsimp only at h
      refine v_if_eq C 34 dX5_findingAt_27 (by decide) (fun c_1 => ?_) (fun c_1 => ?_)
      · replace h := h.1 c_1
        refine v_iconst C 2 dX5_findingAt_34 (by decide) ?_
        exact hret _ _ _ 2 () h rfl dX5_findingAt_35
      · replace h := h.2 c_1
        refine v_iconst C 0 dX5_findingAt_30 (by decide) ?_
        refine v_goto C 35 dX5_findingAt_31 (by decide) ?_
        exact hret _ _ _ 0 () h rfl dX5_findingAt_35
    · replace h := h.2 c_2
      refine v_iconst C 3 dX5_findingAt_17 (by decide) ?_
      exact hret _ _ _ 3 () h rfl dX5_findingAt_18
  · replace h := h.2 c_3
    refine v_iconst C 1 dX5_findingAt_7 (by decide) ?_
    exact hret _ _ _ 1 () h rfl dX5_findingAt_8
