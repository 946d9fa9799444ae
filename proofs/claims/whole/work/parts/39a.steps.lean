/-! The steps. -/
theorem st_fill {lf : Int32} {chM : IA} {chR : IA} {chN : Int32} {chK : Int32} {md : IA} {sp : IA} {dS : IA} {dL : IA} {dR : IA} {dF : IA} {dP : Int32} {lS : IA} {lL : IA} {lR : IA} {lF : IA} {lP : Int32} {sS : IA} {sL : IA} {sT : Int32} {sD : Int32} {sM : Int32} {sX : Int32} {mk : Nat → IA} {si : Nat → IA} {sl : IA} {sf : IA} {ss : IA} {forms : IA} {sizes : IA} {items : IA} {moved : IA} {latest : Int32} {rows : IA} {fresh : IA} {oldMask : IA} {oldRows : IA} {known : Int32} {drawn : Int32} {label : IA} {pile : IA} {parts : Int32} {waitX : IA} {waitY : IA} {waitSide : IA} {waits : Int32} {sign : IA} {signs : Int32} {many : IA} (hI : Inv lf chM chR chN chK md sp dS dL dR dF dP lS lL lR lF lP sS sL sT sD sM sX mk si sl sf ss forms sizes items moved latest rows fresh oldMask oldRows known drawn label pile parts waitX waitY waitSide waits sign signs many) (a1 : Int32) (a2 : Int32) (a3 : Int32) (a4 : Int32) (a5 : Int32) (a6 : Int32) : wp_Qm_fill chM chR chN chK md mk a1 a2 a3 a4 a5 a6 (fun r chM' chR' chN' chK' md' mk' => wp_Md_fill rows fresh oldMask oldRows known a1 a2 a3 a4 a5 a6 (fun r2 rows' fresh' oldMask' oldRows' known' => r = r2 ∧ Inv lf chM' chR' chN' chK' md' sp dS dL dR dF dP lS lL lR lF lP sS sL sT sD sM sX mk' si sl sf ss forms sizes items moved latest rows' fresh' oldMask' oldRows' known' drawn label pile parts waitX waitY waitSide waits sign signs many)) := by
  have hI0 := hI
  obtain ⟨i1, i2, i3, i4, i5, i6, i7⟩ := hI
  by_cases h1 : vp_in a1 4
  · by_cases h2 : vp_in a2 16 ∧ vp_in a3 16
    · by_cases h4 : vp_in a4 17
      · by_cases h5 : vp_in a5 17
        · by_cases h6 : vp_in a6 2
          · obtain ⟨m, hm, rfl⟩ := vp_in_of h1 (by omega)
            obtain ⟨x, hx, rfl⟩ := vp_in_of h2.1 (by omega)
            obtain ⟨y, hy, rfl⟩ := vp_in_of h2.2 (by omega)
            obtain ⟨w, hw, rfl⟩ := vp_in_of h4 (by omega)
            obtain ⟨h, hh, rfl⟩ := vp_in_of h5 (by omega)
            obtain ⟨v, hv, rfl⟩ := vp_in_of h6 (by omega)
            simp only [wp_Qm_fill, e_isMask, e_isCell, e_w17, e_w2, br1, br0, h1, h2, h4, h5, h6, and_self, not_true_eq_false, not_false_eq_true, true_implies, false_implies, and_true, true_and]
            obtain ⟨b, hb⟩ : ∃ b : Bool, nI v = if b then 1 else 0 := by
              rcases (show v = 0 ∨ v = 1 by omega) with rfl | rfl
              · exact ⟨false, rfl⟩
              · exact ⟨true, rfl⟩
            rw [clN (by omega), hb]
            refine s_take (fun f1 hf1 => ?_)
            have g1 : g16 f1 := fun y hy => by rw [hf1 y hy]; exact (i3 m hm).1 y hy
            refine s_paint hx hy (by omega) (by omega) b g1 (fun md' hmd' => ?_)
            refine bec2 hm i3 i2 hmd'.1 (fun r p1 p2 p3 p4 p5 hbb => ?_)
            rw [← hb]
            simp only [wp_Md_fill, f_isMask, f_isCell, f_i16, f_isTwo, br1, br0, h1, h2, h4, h5, h6, and_self, not_true_eq_false, not_false_eq_true, true_implies, false_implies, and_true, true_and]
            refine t_starts hm (fun f2 hf2 => ?_)
            rw [hb]
            have hO : rowsS f2 (fun X Y => bt (f1 Y) X) := by
              refine ⟨fun y hy => ?_, fun y hy x hx => ?_⟩
              · rw [hf2 y hy]; exact mg_g16 i3 hm y hy
              · dsimp only
                rw [hf2 y hy, hf1 y hy, mg_rows i3 hm y hy]
            refine t_fillL hx hy (by omega) (by omega) b hO (fun f' hf' => ?_)
            unfold wx_Md_fill_132
            exact hbb f' _ (rowsS_eq hmd' hf') (fun q1 q2 q3 q4 w1 w2 => ⟨rfl, i1, w2, w1, i4, i5, i6, i7⟩)
          · simp only [wp_Qm_fill, wp_Md_fill, e_isMask, e_isCell, e_w17, e_w2, f_isMask, f_isCell, f_i16, f_isTwo, br1, br0, h1, h2, h4, h5, h6, and_self, not_true_eq_false, not_false_eq_true, true_implies, false_implies, and_true, true_and]
            exact hI0
        · simp only [wp_Qm_fill, wp_Md_fill, e_isMask, e_isCell, e_w17, e_w2, f_isMask, f_isCell, f_i16, f_isTwo, br1, br0, h1, h2, h4, h5, and_self, not_true_eq_false, not_false_eq_true, true_implies, false_implies, and_true, true_and]
          exact hI0
      · simp only [wp_Qm_fill, wp_Md_fill, e_isMask, e_isCell, e_w17, e_w2, f_isMask, f_isCell, f_i16, f_isTwo, br1, br0, h1, h2, h4, and_self, not_true_eq_false, not_false_eq_true, true_implies, false_implies, and_true, true_and]
        exact hI0
    · simp only [wp_Qm_fill, wp_Md_fill, e_isMask, e_isCell, e_w17, e_w2, f_isMask, f_isCell, f_i16, f_isTwo, br1, br0, h1, h2, and_self, not_true_eq_false, not_false_eq_true, true_implies, false_implies, and_true, true_and]
      exact hI0
  · simp only [wp_Qm_fill, wp_Md_fill, e_isMask, e_isCell, e_w17, e_w2, f_isMask, f_isCell, f_i16, f_isTwo, br1, br0, h1, and_self, not_true_eq_false, not_false_eq_true, true_implies, false_implies, and_true, true_and]
    exact hI0
theorem st_dots {lf : Int32} {chM : IA} {chR : IA} {chN : Int32} {chK : Int32} {md : IA} {sp : IA} {dS : IA} {dL : IA} {dR : IA} {dF : IA} {dP : Int32} {lS : IA} {lL : IA} {lR : IA} {lF : IA} {lP : Int32} {sS : IA} {sL : IA} {sT : Int32} {sD : Int32} {sM : Int32} {sX : Int32} {mk : Nat → IA} {si : Nat → IA} {sl : IA} {sf : IA} {ss : IA} {forms : IA} {sizes : IA} {items : IA} {moved : IA} {latest : Int32} {rows : IA} {fresh : IA} {oldMask : IA} {oldRows : IA} {known : Int32} {drawn : Int32} {label : IA} {pile : IA} {parts : Int32} {waitX : IA} {waitY : IA} {waitSide : IA} {waits : Int32} {sign : IA} {signs : Int32} {many : IA} (hI : Inv lf chM chR chN chK md sp dS dL dR dF dP lS lL lR lF lP sS sL sT sD sM sX mk si sl sf ss forms sizes items moved latest rows fresh oldMask oldRows known drawn label pile parts waitX waitY waitSide waits sign signs many) (a1 : Int32) (a2 : Int32) (a3 : Int32) : wp_Qm_dots chM chR chN chK md mk a1 a2 a3 (fun r chM' chR' chN' chK' md' mk' => wp_Md_dots rows fresh oldMask oldRows known drawn a1 a2 a3 (fun r2 rows' fresh' oldMask' oldRows' known' drawn' => r = r2 ∧ Inv lf chM' chR' chN' chK' md' sp dS dL dR dF dP lS lL lR lF lP sS sL sT sD sM sX mk' si sl sf ss forms sizes items moved latest rows' fresh' oldMask' oldRows' known' drawn' label pile parts waitX waitY waitSide waits sign signs many)) := by
  have hI0 := hI
  obtain ⟨i1, i2, i3, i4, i5, i6, i7⟩ := hI
  by_cases h1 : vp_in a1 4
  · by_cases h2 : vp_in a3 256
    · obtain ⟨m, hm, rfl⟩ := vp_in_of h1 (by omega)
      obtain ⟨n, hn, rfl⟩ := vp_in_of h2 (by omega)
      simp only [wp_Qm_dots, e_isMask, e_w256, br1, br0, h1, h2, not_true_eq_false, not_false_eq_true, true_implies, false_implies, and_true, true_and]
      rw [clN (by omega)]
      refine s_take (fun f1 hf1 => ?_)
      refine s_dotsL hn a2 (i3 m hm).1 hf1 (fun md' x hmd' => ?_)
      unfold wx_Qm_dots_90
      refine bec2 hm i3 i2 (fun y hy => by rw [hmd' y hy]; exact dt_g16 (i3 m hm).1 a2 n y hy) (fun r p1 p2 p3 p4 p5 hbb => ?_)
      simp only [wp_Md_dots, f_isMask, f_i255, br1, br0, h1, h2, not_true_eq_false, not_false_eq_true, true_implies, false_implies, and_true, true_and]
      refine t_starts hm (fun f2 hf2 => ?_)
      refine t_dotsL hn a2 (f0 := mk m) (fun y hy => by rw [hf2 y hy, mg_rows i3 hm y hy]) (fun f' x' hf' => ?_)
      unfold wx_Md_dots_76
      exact hbb f' _ (fun y hy => by rw [hmd' y hy, hf' y hy]) (fun q1 q2 q3 q4 w1 w2 => ⟨rfl, i1, w2, w1, i4, i5, i6, i7⟩)
    · simp only [wp_Qm_dots, wp_Md_dots, e_isMask, e_w256, f_isMask, f_i255, br1, br0, h1, h2, not_true_eq_false, not_false_eq_true, true_implies, false_implies, and_true, true_and]
      exact hI0
  · simp only [wp_Qm_dots, wp_Md_dots, e_isMask, e_w256, f_isMask, f_i255, br1, br0, h1, not_true_eq_false, not_false_eq_true, true_implies, false_implies, and_true, true_and]
    exact hI0
theorem st_move {lf : Int32} {chM : IA} {chR : IA} {chN : Int32} {chK : Int32} {md : IA} {sp : IA} {dS : IA} {dL : IA} {dR : IA} {dF : IA} {dP : Int32} {lS : IA} {lL : IA} {lR : IA} {lF : IA} {lP : Int32} {sS : IA} {sL : IA} {sT : Int32} {sD : Int32} {sM : Int32} {sX : Int32} {mk : Nat → IA} {si : Nat → IA} {sl : IA} {sf : IA} {ss : IA} {forms : IA} {sizes : IA} {items : IA} {moved : IA} {latest : Int32} {rows : IA} {fresh : IA} {oldMask : IA} {oldRows : IA} {known : Int32} {drawn : Int32} {label : IA} {pile : IA} {parts : Int32} {waitX : IA} {waitY : IA} {waitSide : IA} {waits : Int32} {sign : IA} {signs : Int32} {many : IA} (hI : Inv lf chM chR chN chK md sp dS dL dR dF dP lS lL lR lF lP sS sL sT sD sM sX mk si sl sf ss forms sizes items moved latest rows fresh oldMask oldRows known drawn label pile parts waitX waitY waitSide waits sign signs many) (a1 : Int32) (a2 : Int32) (a3 : Int32) (a4 : Int32) : wp_Qm_move chM chR chN chK md mk a1 a2 a3 a4 (fun r chM' chR' chN' chK' md' mk' => wp_Md_move rows fresh oldMask oldRows known a1 a2 a3 a4 (fun r2 rows' fresh' oldMask' oldRows' known' => r = r2 ∧ Inv lf chM' chR' chN' chK' md' sp dS dL dR dF dP lS lL lR lF lP sS sL sT sD sM sX mk' si sl sf ss forms sizes items moved latest rows' fresh' oldMask' oldRows' known' drawn label pile parts waitX waitY waitSide waits sign signs many)) := by
  have hI0 := hI
  obtain ⟨i1, i2, i3, i4, i5, i6, i7⟩ := hI
  by_cases h1 : vp_in a1 4
  · by_cases h2 : -16 ≤ a2.toInt ∧ a2.toInt ≤ 16
    · by_cases h3 : -16 ≤ a3.toInt ∧ a3.toInt ≤ 16
      · by_cases h4 : vp_in a4 4
        · obtain ⟨a, ha, rfl⟩ := vp_in_of h1 (by omega)
          obtain ⟨t, ht, rfl⟩ := vp_in_of h4 (by omega)
          simp only [wp_Qm_move, e_isMask, e_isMove, br1, br0, h1, h2, h3, h4, and_self, not_true_eq_false, not_false_eq_true, true_implies, false_implies, and_true, true_and]
          refine s_moveL ha (i3 a ha).1 h2 h3 (fun md' hmd' => ?_)
          unfold wx_Qm_move_88
          refine bec2 ht i3 i2 hmd'.1 (fun r p1 p2 p3 p4 p5 hbb => ?_)
          simp only [wp_Md_move, f_isMask, f_isMove, br1, br0, h1, h2, h3, h4, and_self, not_true_eq_false, not_false_eq_true, true_implies, false_implies, and_true, true_and]
          refine t_clears (fun f2 hf2 => ?_)
          refine t_moveL ha h2 h3 (rows0 hf2) (fun f' hf' => ?_)
          unfold wx_Md_move_100
          rw [← dz_eq (mg_rows i3 ha)] at hf'
          exact hbb f' _ (rowsS_eq hmd' hf') (fun q1 q2 q3 q4 w1 w2 => ⟨rfl, i1, w2, w1, i4, i5, i6, i7⟩)
        · simp only [wp_Qm_move, wp_Md_move, e_isMask, e_isMove, f_isMask, f_isMove, br1, br0, h1, h2, h3, h4, and_self, not_true_eq_false, not_false_eq_true, true_implies, false_implies, and_true, true_and]
          exact hI0
      · simp only [wp_Qm_move, wp_Md_move, e_isMask, e_isMove, f_isMask, f_isMove, br1, br0, h1, h2, h3, and_self, not_true_eq_false, not_false_eq_true, true_implies, false_implies, and_true, true_and]
        exact hI0
    · simp only [wp_Qm_move, wp_Md_move, e_isMask, e_isMove, f_isMask, f_isMove, br1, br0, h1, h2, and_self, not_true_eq_false, not_false_eq_true, true_implies, false_implies, and_true, true_and]
      exact hI0
  · simp only [wp_Qm_move, wp_Md_move, e_isMask, e_isMove, f_isMask, f_isMove, br1, br0, h1, and_self, not_true_eq_false, not_false_eq_true, true_implies, false_implies, and_true, true_and]
    exact hI0
theorem st_turn {lf : Int32} {chM : IA} {chR : IA} {chN : Int32} {chK : Int32} {md : IA} {sp : IA} {dS : IA} {dL : IA} {dR : IA} {dF : IA} {dP : Int32} {lS : IA} {lL : IA} {lR : IA} {lF : IA} {lP : Int32} {sS : IA} {sL : IA} {sT : Int32} {sD : Int32} {sM : Int32} {sX : Int32} {mk : Nat → IA} {si : Nat → IA} {sl : IA} {sf : IA} {ss : IA} {forms : IA} {sizes : IA} {items : IA} {moved : IA} {latest : Int32} {rows : IA} {fresh : IA} {oldMask : IA} {oldRows : IA} {known : Int32} {drawn : Int32} {label : IA} {pile : IA} {parts : Int32} {waitX : IA} {waitY : IA} {waitSide : IA} {waits : Int32} {sign : IA} {signs : Int32} {many : IA} (hI : Inv lf chM chR chN chK md sp dS dL dR dF dP lS lL lR lF lP sS sL sT sD sM sX mk si sl sf ss forms sizes items moved latest rows fresh oldMask oldRows known drawn label pile parts waitX waitY waitSide waits sign signs many) (a1 : Int32) (a2 : Int32) (a3 : Int32) : wp_Qm_turn chM chR chN chK md sp mk a1 a2 a3 (fun r chM' chR' chN' chK' md' sp' mk' => wp_Md_turn rows fresh oldMask oldRows known a1 a2 a3 (fun r2 rows' fresh' oldMask' oldRows' known' => r = r2 ∧ Inv lf chM' chR' chN' chK' md' sp' dS dL dR dF dP lS lL lR lF lP sS sL sT sD sM sX mk' si sl sf ss forms sizes items moved latest rows' fresh' oldMask' oldRows' known' drawn label pile parts waitX waitY waitSide waits sign signs many)) := by
  have hI0 := hI
  obtain ⟨i1, i2, i3, i4, i5, i6, i7⟩ := hI
  by_cases h1 : vp_in a1 4
  · by_cases h2 : vp_in a2 4
    · by_cases h3 : vp_in a3 4
      · obtain ⟨a, ha, rfl⟩ := vp_in_of h1 (by omega)
        obtain ⟨n, hn, rfl⟩ := vp_in_of h2 (by omega)
        obtain ⟨t, ht, rfl⟩ := vp_in_of h3 (by omega)
        simp only [wp_Qm_turn, e_isMask, e_w4, br1, br0, h1, h2, h3, not_true_eq_false, not_false_eq_true, true_implies, false_implies, and_true, true_and]
        rw [clN (by omega)]
        refine s_take (fun f1 hf1 => ?_)
        refine s_turnL hn (rowsS_rows (rowsS_self (i3 a ha).1) hf1) (fun md' sp' hmd' => ?_)
        unfold wx_Qm_turn_75
        refine bec2 ht i3 i2 hmd'.1 (fun r p1 p2 p3 p4 p5 hbb => ?_)
        simp only [wp_Md_turn, f_isMask, f_i3, br1, br0, h1, h2, h3, not_true_eq_false, not_false_eq_true, true_implies, false_implies, and_true, true_and]
        refine t_clears (fun f2 hf2 => ?_)
        refine t_turnL ha hn (rows0 hf2).1 (fun f' hf' => ?_)
        unfold wx_Md_turn_117
        rw [← dk_eq (mg_rows i3 ha)] at hf'
        exact hbb f' _ (rowsS_eq hmd' hf') (fun q1 q2 q3 q4 w1 w2 => ⟨rfl, i1, w2, w1, i4, i5, i6, i7⟩)
      · simp only [wp_Qm_turn, wp_Md_turn, e_isMask, e_w4, f_isMask, f_i3, br1, br0, h1, h2, h3, not_true_eq_false, not_false_eq_true, true_implies, false_implies, and_true, true_and]
        exact hI0
    · simp only [wp_Qm_turn, wp_Md_turn, e_isMask, e_w4, f_isMask, f_i3, br1, br0, h1, h2, not_true_eq_false, not_false_eq_true, true_implies, false_implies, and_true, true_and]
      exact hI0
  · simp only [wp_Qm_turn, wp_Md_turn, e_isMask, e_w4, f_isMask, f_i3, br1, br0, h1, not_true_eq_false, not_false_eq_true, true_implies, false_implies, and_true, true_and]
    exact hI0
theorem st_band {lf : Int32} {chM : IA} {chR : IA} {chN : Int32} {chK : Int32} {md : IA} {sp : IA} {dS : IA} {dL : IA} {dR : IA} {dF : IA} {dP : Int32} {lS : IA} {lL : IA} {lR : IA} {lF : IA} {lP : Int32} {sS : IA} {sL : IA} {sT : Int32} {sD : Int32} {sM : Int32} {sX : Int32} {mk : Nat → IA} {si : Nat → IA} {sl : IA} {sf : IA} {ss : IA} {forms : IA} {sizes : IA} {items : IA} {moved : IA} {latest : Int32} {rows : IA} {fresh : IA} {oldMask : IA} {oldRows : IA} {known : Int32} {drawn : Int32} {label : IA} {pile : IA} {parts : Int32} {waitX : IA} {waitY : IA} {waitSide : IA} {waits : Int32} {sign : IA} {signs : Int32} {many : IA} (hI : Inv lf chM chR chN chK md sp dS dL dR dF dP lS lL lR lF lP sS sL sT sD sM sX mk si sl sf ss forms sizes items moved latest rows fresh oldMask oldRows known drawn label pile parts waitX waitY waitSide waits sign signs many) (a1 : Int32) (a2 : Int32) (a3 : Int32) : wp_Qm_band chM chR chN chK md sp mk a1 a2 a3 (fun r chM' chR' chN' chK' md' sp' mk' => wp_Md_band rows fresh oldMask oldRows known a1 a2 a3 (fun r2 rows' fresh' oldMask' oldRows' known' => r = r2 ∧ Inv lf chM' chR' chN' chK' md' sp' dS dL dR dF dP lS lL lR lF lP sS sL sT sD sM sX mk' si sl sf ss forms sizes items moved latest rows' fresh' oldMask' oldRows' known' drawn label pile parts waitX waitY waitSide waits sign signs many)) := by
  have hI0 := hI
  obtain ⟨i1, i2, i3, i4, i5, i6, i7⟩ := hI
  by_cases h1 : vp_in a1 4
  · by_cases h2 : vp_in a2 31
    · by_cases h3 : vp_in a3 4
      · obtain ⟨a, ha, rfl⟩ := vp_in_of h1 (by omega)
        obtain ⟨n, hn, rfl⟩ := vp_in_of h2 (by omega)
        obtain ⟨t, ht, rfl⟩ := vp_in_of h3 (by omega)
        simp only [wp_Qm_band, e_isMask, e_w31, br1, br0, h1, h2, h3, not_true_eq_false, not_false_eq_true, true_implies, false_implies, and_true, true_and]
        rw [clN (by omega)]
        refine s_take (fun f1 hf1 => ?_)
        refine s_bandL hn (rowsS_rows (rowsS_self (i3 a ha).1) hf1) (fun X Y h => dk_out h) (fun md' sp' hmd' => ?_)
        unfold wx_Qm_band_76
        refine bec2 ht i3 i2 hmd'.1 (fun r p1 p2 p3 p4 p5 hbb => ?_)
        simp only [wp_Md_band, f_isMask, f_i30, br1, br0, h1, h2, h3, not_true_eq_false, not_false_eq_true, true_implies, false_implies, and_true, true_and]
        refine t_clears (fun f2 hf2 => ?_)
        refine t_bandL ha hn (rows0 hf2) (fun f' hf' => ?_)
        unfold wx_Md_band_94
        rw [← dk_eq (mg_rows i3 ha)] at hf'
        exact hbb f' _ (rowsS_eq hmd' hf') (fun q1 q2 q3 q4 w1 w2 => ⟨rfl, i1, w2, w1, i4, i5, i6, i7⟩)
      · simp only [wp_Qm_band, wp_Md_band, e_isMask, e_w31, f_isMask, f_i30, br1, br0, h1, h2, h3, not_true_eq_false, not_false_eq_true, true_implies, false_implies, and_true, true_and]
        exact hI0
    · simp only [wp_Qm_band, wp_Md_band, e_isMask, e_w31, f_isMask, f_i30, br1, br0, h1, h2, not_true_eq_false, not_false_eq_true, true_implies, false_implies, and_true, true_and]
      exact hI0
  · simp only [wp_Qm_band, wp_Md_band, e_isMask, e_w31, f_isMask, f_i30, br1, br0, h1, not_true_eq_false, not_false_eq_true, true_implies, false_implies, and_true, true_and]
    exact hI0
theorem st_back {lf : Int32} {chM : IA} {chR : IA} {chN : Int32} {chK : Int32} {md : IA} {sp : IA} {dS : IA} {dL : IA} {dR : IA} {dF : IA} {dP : Int32} {lS : IA} {lL : IA} {lR : IA} {lF : IA} {lP : Int32} {sS : IA} {sL : IA} {sT : Int32} {sD : Int32} {sM : Int32} {sX : Int32} {mk : Nat → IA} {si : Nat → IA} {sl : IA} {sf : IA} {ss : IA} {forms : IA} {sizes : IA} {items : IA} {moved : IA} {latest : Int32} {rows : IA} {fresh : IA} {oldMask : IA} {oldRows : IA} {known : Int32} {drawn : Int32} {label : IA} {pile : IA} {parts : Int32} {waitX : IA} {waitY : IA} {waitSide : IA} {waits : Int32} {sign : IA} {signs : Int32} {many : IA} (hI : Inv lf chM chR chN chK md sp dS dL dR dF dP lS lL lR lF lP sS sL sT sD sM sX mk si sl sf ss forms sizes items moved latest rows fresh oldMask oldRows known drawn label pile parts waitX waitY waitSide waits sign signs many)  : wp_Qm_back chM chR chN chK md mk (fun r chN' chK' md' mk' => wp_Md_back rows oldMask oldRows known (fun r2 rows' known' => r = r2 ∧ Inv lf chM chR chN' chK' md' sp dS dL dR dF dP lS lL lR lF lP sS sL sT sD sM sX mk' si sl sf ss forms sizes items moved latest rows' fresh oldMask oldRows known' drawn label pile parts waitX waitY waitSide waits sign signs many)) := by
  obtain ⟨i1, hh, hmk, i4, i5, i6, i7⟩ := hI
  obtain ⟨k, n, hk, hn, rfl, rfl, rfl, hh⟩ := hh
  unfold wp_Qm_back
  rcases Nat.eq_zero_or_pos k with q | q
  · subst q
    refine ⟨fun _ => ?_, fun w => absurd rfl w⟩
    unfold wp_Md_back
    exact ⟨fun _ => ⟨rfl, i1, ⟨0, n, by omega, hn, rfl, rfl, rfl, hh⟩, hmk, i4, i5, i6, i7⟩, fun w => absurd rfl w⟩
  · refine ⟨fun e => absurd e (nI_ne0 q (by omega)), fun _ => ?_⟩
    have ev : (n + 40 - k + (k - 1)) % 40 = (n + 39) % 40 := by omega
    obtain ⟨⟨m, hm, h1, h2⟩, h3⟩ := hh (k - 1) (by omega)
    rw [ev] at h2 h3
    refine s_undo (v := (n + 39) % 40) hn q hk rfl (fun y hy => by rw [(h3 y hy).2]; exact (h3 y hy).1) (fun o' ho' => ?_)
    rw [h2, e_isMask]
    refine ⟨fun hm4 => ?_, fun w => absurd (vp_in_nI hm (by omega)) w⟩
    rw [br1, clN (by omega)]
    refine ⟨hm4, s_take (fun f' hf' => ?_)⟩
    refine t_back q hk hm h1 (fun rows' a1 a2 => ⟨rfl, i1, ⟨k - 1, (n + 39) % 40, by omega, by omega, rfl, rfl, rfl, fun j hj => ?_⟩, fun m2 hm2 => ?_, i4, i5, i6, i7⟩)
    · have e : ((n + 39) % 40 + 40 - (k - 1) + j) % 40 = (n + 40 - k + j) % 40 := by omega
      rw [e]
      exact hh j (by omega)
    · by_cases w : m2 = m
      · subst w
        rw [va_up_self]
        refine ⟨fun y hy => ?_, fun y hy => ?_⟩
        · rw [hf' y hy, ho' y hy, (h3 y hy).2]; exact (h3 y hy).1
        · rw [hf' y hy, ho' y hy, (h3 y hy).2, a1 y hy]
      · rw [va_up_ne _ _ w]
        refine ⟨(hmk m2 hm2).1, fun y hy => ?_⟩
        rw [(hmk m2 hm2).2 y hy, a2 _ (by omega)]
