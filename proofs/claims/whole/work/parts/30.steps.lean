/-! The steps. -/
theorem st_over {lf : Int32} {chM : IA} {chR : IA} {chN : Int32} {chK : Int32} {md : IA} {sp : IA} {dS : IA} {dL : IA} {dR : IA} {dF : IA} {dP : Int32} {lS : IA} {lL : IA} {lR : IA} {lF : IA} {lP : Int32} {sS : IA} {sL : IA} {sT : Int32} {sD : Int32} {sM : Int32} {sX : Int32} {mk : Nat → IA} {si : Nat → IA} {sl : IA} {sf : IA} {ss : IA} {forms : IA} {sizes : IA} {items : IA} {moved : IA} {latest : Int32} {rows : IA} {fresh : IA} {oldMask : IA} {oldRows : IA} {known : Int32} {drawn : Int32} {label : IA} {pile : IA} {parts : Int32} {waitX : IA} {waitY : IA} {waitSide : IA} {waits : Int32} {sign : IA} {signs : Int32} {many : IA} (hI : Inv lf chM chR chN chK md sp dS dL dR dF dP lS lL lR lF lP sS sL sT sD sM sX mk si sl sf ss forms sizes items moved latest rows fresh oldMask oldRows known drawn label pile parts waitX waitY waitSide waits sign signs many) (a1 : Int32) (a2 : Int32) : wp_Qm_over chM chR chN chK md mk a1 a2 (fun r chM' chR' chN' chK' md' mk' => wp_Md_over rows fresh oldMask oldRows known a1 a2 (fun r2 rows' fresh' oldMask' oldRows' known' => r = r2 ∧ Inv lf chM' chR' chN' chK' md' sp dS dL dR dF dP lS lL lR lF lP sS sL sT sD sM sX mk' si sl sf ss forms sizes items moved latest rows' fresh' oldMask' oldRows' known' drawn label pile parts waitX waitY waitSide waits sign signs many)) := by
  have hI0 := hI
  obtain ⟨i1, i2, i3, i4, i5, i6, i7⟩ := hI
  by_cases h1 : vp_in a1 4
  · by_cases h2 : vp_in a2 4
    · obtain ⟨a, ha, rfl⟩ := vp_in_of h1 (by omega)
      obtain ⟨t, ht, rfl⟩ := vp_in_of h2 (by omega)
      simp only [wp_Qm_over, e_isMask, br1, br0, h1, h2, not_true_eq_false, not_false_eq_true, true_implies, false_implies, and_true, true_and]
      rw [clN (by omega)]
      refine s_over (fun md' hmd' => ?_)
      refine bec2 ht i3 i2 (fun y hy => by rw [hmd' y hy]; exact r16_xor ((i3 a ha).1 y hy) r16_full) (fun r p1 p2 p3 p4 p5 hb => ?_)
      simp only [wp_Md_over, f_isMask, br1, br0, h1, h2, not_true_eq_false, not_false_eq_true, true_implies, false_implies, and_true, true_and]
      refine t_overL ha (fun f' hf' => ?_)
      unfold wx_Md_over_51
      refine hb f' _ (fun y hy => ?_) (fun q1 q2 q3 q4 w1 w2 => ⟨rfl, i1, w2, w1, i4, i5, i6, i7⟩)
      rw [hmd' y hy, hf' y hy, mg_rows i3 ha y hy, Int32.xor_comm]
    · simp only [wp_Qm_over, wp_Md_over, e_isMask, f_isMask, br1, br0, h1, h2, not_true_eq_false, not_false_eq_true, true_implies, false_implies, and_true, true_and]
      exact hI0
  · simp only [wp_Qm_over, wp_Md_over, e_isMask, f_isMask, br1, br0, h1, not_true_eq_false, not_false_eq_true, true_implies, false_implies, and_true, true_and]
    exact hI0
theorem st_join {lf : Int32} {chM : IA} {chR : IA} {chN : Int32} {chK : Int32} {md : IA} {sp : IA} {dS : IA} {dL : IA} {dR : IA} {dF : IA} {dP : Int32} {lS : IA} {lL : IA} {lR : IA} {lF : IA} {lP : Int32} {sS : IA} {sL : IA} {sT : Int32} {sD : Int32} {sM : Int32} {sX : Int32} {mk : Nat → IA} {si : Nat → IA} {sl : IA} {sf : IA} {ss : IA} {forms : IA} {sizes : IA} {items : IA} {moved : IA} {latest : Int32} {rows : IA} {fresh : IA} {oldMask : IA} {oldRows : IA} {known : Int32} {drawn : Int32} {label : IA} {pile : IA} {parts : Int32} {waitX : IA} {waitY : IA} {waitSide : IA} {waits : Int32} {sign : IA} {signs : Int32} {many : IA} (hI : Inv lf chM chR chN chK md sp dS dL dR dF dP lS lL lR lF lP sS sL sT sD sM sX mk si sl sf ss forms sizes items moved latest rows fresh oldMask oldRows known drawn label pile parts waitX waitY waitSide waits sign signs many) (a1 : Int32) (a2 : Int32) (a3 : Int32) (a4 : Int32) : wp_Qm_join chM chR chN chK md mk a1 a2 a3 a4 (fun r chM' chR' chN' chK' md' mk' => wp_Md_join rows fresh oldMask oldRows known a1 a2 a3 a4 (fun r2 rows' fresh' oldMask' oldRows' known' => r = r2 ∧ Inv lf chM' chR' chN' chK' md' sp dS dL dR dF dP lS lL lR lF lP sS sL sT sD sM sX mk' si sl sf ss forms sizes items moved latest rows' fresh' oldMask' oldRows' known' drawn label pile parts waitX waitY waitSide waits sign signs many)) := by
  have hI0 := hI
  obtain ⟨i1, i2, i3, i4, i5, i6, i7⟩ := hI
  by_cases h0 : vp_in a1 4
  · by_cases h1 : vp_in a2 4
    · by_cases h2 : vp_in a3 4
      · by_cases h3 : vp_in a4 4
        · obtain ⟨a, ha, rfl⟩ := vp_in_of h1 (by omega)
          obtain ⟨b, hb, rfl⟩ := vp_in_of h2 (by omega)
          obtain ⟨t, ht, rfl⟩ := vp_in_of h3 (by omega)
          simp only [wp_Qm_join, e_isMask, e_w4, br1, br0, h0, h1, h2, h3, not_true_eq_false, not_false_eq_true, true_implies, false_implies, and_true, true_and]
          refine s_joinL ha hb (i3 a ha).1 (i3 b hb).1 (fun md' hmd' => ?_)
          unfold wx_Qm_join_84
          refine bec2 ht i3 i2 (fun y hy => by rw [hmd' y hy]; exact jop_r16 ((i3 a ha).1 y hy) ((i3 b hb).1 y hy)) (fun r p1 p2 p3 p4 p5 hbb => ?_)
          simp only [wp_Md_join, f_isMask, f_i3, br1, br0, h0, h1, h2, h3, not_true_eq_false, not_false_eq_true, true_implies, false_implies, and_true, true_and]
          refine t_joinL ha hb (fun f' hf' => ?_)
          unfold wx_Md_join_133
          refine hbb f' _ (fun y hy => ?_) (fun q1 q2 q3 q4 w1 w2 => ⟨rfl, i1, w2, w1, i4, i5, i6, i7⟩)
          rw [hmd' y hy, hf' y hy, mg_rows i3 ha y hy, mg_rows i3 hb y hy]
        · simp only [wp_Qm_join, wp_Md_join, e_isMask, f_isMask, e_w4, f_i3, br1, br0, h0, h1, h2, h3, not_true_eq_false, not_false_eq_true, true_implies, false_implies, and_true, true_and]
          exact hI0
      · simp only [wp_Qm_join, wp_Md_join, e_isMask, f_isMask, e_w4, f_i3, br1, br0, h0, h1, h2, not_true_eq_false, not_false_eq_true, true_implies, false_implies, and_true, true_and]
        exact hI0
    · simp only [wp_Qm_join, wp_Md_join, e_isMask, f_isMask, e_w4, f_i3, br1, br0, h0, h1, not_true_eq_false, not_false_eq_true, true_implies, false_implies, and_true, true_and]
      exact hI0
  · simp only [wp_Qm_join, wp_Md_join, e_isMask, f_isMask, e_w4, f_i3, br1, br0, h0, not_true_eq_false, not_false_eq_true, true_implies, false_implies, and_true, true_and]
    exact hI0
