/-! The steps. -/
theorem st_cell {lf : Int32} {chM : IA} {chR : IA} {chN : Int32} {chK : Int32} {md : IA} {sp : IA} {dS : IA} {dL : IA} {dR : IA} {dF : IA} {dP : Int32} {lS : IA} {lL : IA} {lR : IA} {lF : IA} {lP : Int32} {sS : IA} {sL : IA} {sT : Int32} {sD : Int32} {sM : Int32} {sX : Int32} {mk : Nat → IA} {si : Nat → IA} {sl : IA} {sf : IA} {ss : IA} {forms : IA} {sizes : IA} {items : IA} {moved : IA} {latest : Int32} {rows : IA} {fresh : IA} {oldMask : IA} {oldRows : IA} {known : Int32} {drawn : Int32} {label : IA} {pile : IA} {parts : Int32} {waitX : IA} {waitY : IA} {waitSide : IA} {waits : Int32} {sign : IA} {signs : Int32} {many : IA} (hI : Inv lf chM chR chN chK md sp dS dL dR dF dP lS lL lR lF lP sS sL sT sD sM sX mk si sl sf ss forms sizes items moved latest rows fresh oldMask oldRows known drawn label pile parts waitX waitY waitSide waits sign signs many) (a1 : Int32) (a2 : Int32) (a3 : Int32) : wp_Qm_cell mk a1 a2 a3 (fun r => wp_Md_cell rows a1 a2 a3 (fun r2 => r = r2 ∧ Inv lf chM chR chN chK md sp dS dL dR dF dP lS lL lR lF lP sS sL sT sD sM sX mk si sl sf ss forms sizes items moved latest rows fresh oldMask oldRows known drawn label pile parts waitX waitY waitSide waits sign signs many)) := by
  have hI0 := hI
  obtain ⟨i1, i2, i3, i4, i5, i6, i7⟩ := hI
  by_cases h1 : vp_in a1 4
  · by_cases h2 : vp_in a2 16 ∧ vp_in a3 16
    · obtain ⟨m, hm, rfl⟩ := vp_in_of h1 (by omega)
      obtain ⟨x, hx, rfl⟩ := vp_in_of h2.1 (by omega)
      obtain ⟨y, hy, rfl⟩ := vp_in_of h2.2 (by omega)
      refine qs_cell hm hx hy ?_
      unfold wp_Md_cell
      rw [f_isMask, brA h1, br1, f_isCell, brA h2, br1]
      refine qt_cell hm hx hy ⟨?_, hI0⟩
      rw [dk_eq (mg_rows i3 hm)]
    · simp only [wp_Qm_cell, wp_Md_cell, e_isMask, f_isMask, e_isCell, f_isCell, br1, br0, h1, h2, not_true_eq_false, not_false_eq_true, true_implies, false_implies, and_true, true_and]
      exact hI0
  · simp only [wp_Qm_cell, wp_Md_cell, e_isMask, f_isMask, br1, br0, h1, not_true_eq_false, not_false_eq_true, true_implies, false_implies, and_true, true_and]
    exact hI0
theorem st_near {lf : Int32} {chM : IA} {chR : IA} {chN : Int32} {chK : Int32} {md : IA} {sp : IA} {dS : IA} {dL : IA} {dR : IA} {dF : IA} {dP : Int32} {lS : IA} {lL : IA} {lR : IA} {lF : IA} {lP : Int32} {sS : IA} {sL : IA} {sT : Int32} {sD : Int32} {sM : Int32} {sX : Int32} {mk : Nat → IA} {si : Nat → IA} {sl : IA} {sf : IA} {ss : IA} {forms : IA} {sizes : IA} {items : IA} {moved : IA} {latest : Int32} {rows : IA} {fresh : IA} {oldMask : IA} {oldRows : IA} {known : Int32} {drawn : Int32} {label : IA} {pile : IA} {parts : Int32} {waitX : IA} {waitY : IA} {waitSide : IA} {waits : Int32} {sign : IA} {signs : Int32} {many : IA} (hI : Inv lf chM chR chN chK md sp dS dL dR dF dP lS lL lR lF lP sS sL sT sD sM sX mk si sl sf ss forms sizes items moved latest rows fresh oldMask oldRows known drawn label pile parts waitX waitY waitSide waits sign signs many) (a1 : Int32) (a2 : Int32) (a3 : Int32) : wp_Qm_near mk a1 a2 a3 (fun r => wp_Md_near rows a1 a2 a3 (fun r2 => r = r2 ∧ Inv lf chM chR chN chK md sp dS dL dR dF dP lS lL lR lF lP sS sL sT sD sM sX mk si sl sf ss forms sizes items moved latest rows fresh oldMask oldRows known drawn label pile parts waitX waitY waitSide waits sign signs many)) := by
  have hI0 := hI
  obtain ⟨i1, i2, i3, i4, i5, i6, i7⟩ := hI
  by_cases h1 : vp_in a1 4
  · by_cases h2 : vp_in a2 16 ∧ vp_in a3 16
    · obtain ⟨m, hm, rfl⟩ := vp_in_of h1 (by omega)
      obtain ⟨x, hx, rfl⟩ := vp_in_of h2.1 (by omega)
      obtain ⟨y, hy, rfl⟩ := vp_in_of h2.2 (by omega)
      refine qs_near hm (i3 m hm).1 hx hy ?_
      unfold wp_Md_near
      rw [f_isMask, brA h1, br1, f_isCell, brA h2, br1]
      refine t_nearOf hm hx hy ⟨?_, hI0⟩
      rw [dk_eq (mg_rows i3 hm)]
    · simp only [wp_Qm_near, wp_Md_near, e_isMask, f_isMask, e_isCell, f_isCell, br1, br0, h1, h2, not_true_eq_false, not_false_eq_true, true_implies, false_implies, and_true, true_and]
      exact hI0
  · simp only [wp_Qm_near, wp_Md_near, e_isMask, f_isMask, br1, br0, h1, not_true_eq_false, not_false_eq_true, true_implies, false_implies, and_true, true_and]
    exact hI0
theorem st_both {lf : Int32} {chM : IA} {chR : IA} {chN : Int32} {chK : Int32} {md : IA} {sp : IA} {dS : IA} {dL : IA} {dR : IA} {dF : IA} {dP : Int32} {lS : IA} {lL : IA} {lR : IA} {lF : IA} {lP : Int32} {sS : IA} {sL : IA} {sT : Int32} {sD : Int32} {sM : Int32} {sX : Int32} {mk : Nat → IA} {si : Nat → IA} {sl : IA} {sf : IA} {ss : IA} {forms : IA} {sizes : IA} {items : IA} {moved : IA} {latest : Int32} {rows : IA} {fresh : IA} {oldMask : IA} {oldRows : IA} {known : Int32} {drawn : Int32} {label : IA} {pile : IA} {parts : Int32} {waitX : IA} {waitY : IA} {waitSide : IA} {waits : Int32} {sign : IA} {signs : Int32} {many : IA} (hI : Inv lf chM chR chN chK md sp dS dL dR dF dP lS lL lR lF lP sS sL sT sD sM sX mk si sl sf ss forms sizes items moved latest rows fresh oldMask oldRows known drawn label pile parts waitX waitY waitSide waits sign signs many) (a1 : Int32) (a2 : Int32) (a3 : Int32) : wp_Qm_both mk a1 a2 a3 (fun r => wp_Md_both rows a1 a2 a3 (fun r2 => r = r2 ∧ Inv lf chM chR chN chK md sp dS dL dR dF dP lS lL lR lF lP sS sL sT sD sM sX mk si sl sf ss forms sizes items moved latest rows fresh oldMask oldRows known drawn label pile parts waitX waitY waitSide waits sign signs many)) := by
  have hI0 := hI
  obtain ⟨i1, i2, i3, i4, i5, i6, i7⟩ := hI
  by_cases h1 : vp_in a1 4
  · by_cases h2 : vp_in a2 4
    · by_cases h3 : vp_in a3 4
      · obtain ⟨m, hm, rfl⟩ := vp_in_of h1 (by omega)
        obtain ⟨t, ht, rfl⟩ := vp_in_of h2 (by omega)
        refine qs_both hm ht (i3 m hm).1 (i3 t ht).1 h3 ?_
        unfold wp_Md_both
        rw [f_isMask, brA h1, br1, f_isMask, brA h2, br1, f_i3, brA h3, br1]
        refine qt_both hm ht a3 ⟨?_, hI0⟩
        rw [dk_eq (mg_rows i3 hm), dk_eq (mg_rows i3 ht)]
      · simp only [wp_Qm_both, wp_Md_both, e_isMask, f_isMask, e_w4, f_i3, br1, br0, h1, h2, h3, not_true_eq_false, not_false_eq_true, true_implies, false_implies, and_true, true_and]
        exact hI0
    · simp only [wp_Qm_both, wp_Md_both, e_isMask, f_isMask, br1, br0, h1, h2, not_true_eq_false, not_false_eq_true, true_implies, false_implies, and_true, true_and]
      exact hI0
  · simp only [wp_Qm_both, wp_Md_both, e_isMask, f_isMask, br1, br0, h1, not_true_eq_false, not_false_eq_true, true_implies, false_implies, and_true, true_and]
    exact hI0
theorem st_block {lf : Int32} {chM : IA} {chR : IA} {chN : Int32} {chK : Int32} {md : IA} {sp : IA} {dS : IA} {dL : IA} {dR : IA} {dF : IA} {dP : Int32} {lS : IA} {lL : IA} {lR : IA} {lF : IA} {lP : Int32} {sS : IA} {sL : IA} {sT : Int32} {sD : Int32} {sM : Int32} {sX : Int32} {mk : Nat → IA} {si : Nat → IA} {sl : IA} {sf : IA} {ss : IA} {forms : IA} {sizes : IA} {items : IA} {moved : IA} {latest : Int32} {rows : IA} {fresh : IA} {oldMask : IA} {oldRows : IA} {known : Int32} {drawn : Int32} {label : IA} {pile : IA} {parts : Int32} {waitX : IA} {waitY : IA} {waitSide : IA} {waits : Int32} {sign : IA} {signs : Int32} {many : IA} (hI : Inv lf chM chR chN chK md sp dS dL dR dF dP lS lL lR lF lP sS sL sT sD sM sX mk si sl sf ss forms sizes items moved latest rows fresh oldMask oldRows known drawn label pile parts waitX waitY waitSide waits sign signs many) (a1 : Int32) (a2 : Int32) (a3 : Int32) (a4 : Int32) : wp_Qm_block mk a1 a2 a3 a4 (fun r => wp_Md_block rows a1 a2 a3 a4 (fun r2 => r = r2 ∧ Inv lf chM chR chN chK md sp dS dL dR dF dP lS lL lR lF lP sS sL sT sD sM sX mk si sl sf ss forms sizes items moved latest rows fresh oldMask oldRows known drawn label pile parts waitX waitY waitSide waits sign signs many)) := by
  have hI0 := hI
  obtain ⟨i1, i2, i3, i4, i5, i6, i7⟩ := hI
  by_cases h1 : vp_in a1 4
  · by_cases h2 : vp_in a2 16 ∧ vp_in a3 16
    · by_cases h3 : vp_in a4 3
      · obtain ⟨m, hm, rfl⟩ := vp_in_of h1 (by omega)
        obtain ⟨x, hx, rfl⟩ := vp_in_of h2.1 (by omega)
        obtain ⟨y, hy, rfl⟩ := vp_in_of h2.2 (by omega)
        refine qs_blk hm hx hy h3 ?_
        unfold wp_Md_block
        rw [f_isMask, brA h1, br1, f_isCell, brA h2, br1, f_i2, brA h3, br1]
        refine qt_block hm hx hy a4 ⟨?_, hI0⟩
        rw [dk_eq (mg_rows i3 hm)]
      · simp only [wp_Qm_block, wp_Md_block, e_isMask, f_isMask, e_isCell, f_isCell, e_w3, f_i2, br1, br0, h1, h2, h3, not_true_eq_false, not_false_eq_true, true_implies, false_implies, and_true, true_and]
        exact hI0
    · simp only [wp_Qm_block, wp_Md_block, e_isMask, f_isMask, e_isCell, f_isCell, br1, br0, h1, h2, not_true_eq_false, not_false_eq_true, true_implies, false_implies, and_true, true_and]
      exact hI0
  · simp only [wp_Qm_block, wp_Md_block, e_isMask, f_isMask, br1, br0, h1, not_true_eq_false, not_false_eq_true, true_implies, false_implies, and_true, true_and]
    exact hI0
theorem st_blocks {lf : Int32} {chM : IA} {chR : IA} {chN : Int32} {chK : Int32} {md : IA} {sp : IA} {dS : IA} {dL : IA} {dR : IA} {dF : IA} {dP : Int32} {lS : IA} {lL : IA} {lR : IA} {lF : IA} {lP : Int32} {sS : IA} {sL : IA} {sT : Int32} {sD : Int32} {sM : Int32} {sX : Int32} {mk : Nat → IA} {si : Nat → IA} {sl : IA} {sf : IA} {ss : IA} {forms : IA} {sizes : IA} {items : IA} {moved : IA} {latest : Int32} {rows : IA} {fresh : IA} {oldMask : IA} {oldRows : IA} {known : Int32} {drawn : Int32} {label : IA} {pile : IA} {parts : Int32} {waitX : IA} {waitY : IA} {waitSide : IA} {waits : Int32} {sign : IA} {signs : Int32} {many : IA} (hI : Inv lf chM chR chN chK md sp dS dL dR dF dP lS lL lR lF lP sS sL sT sD sM sX mk si sl sf ss forms sizes items moved latest rows fresh oldMask oldRows known drawn label pile parts waitX waitY waitSide waits sign signs many) (a1 : Int32) (a2 : Int32) : wp_Qm_blocks sS sL sT sD sM sX mk a1 a2 (fun r sS' sL' sT' sD' sM' sX' => wp_Md_blocks rows waitX waitY waitSide waits sign signs many a1 a2 (fun r2 waitX' waitY' waitSide' waits' sign' signs' many' => r = r2 ∧ Inv lf chM chR chN chK md sp dS dL dR dF dP lS lL lR lF lP sS' sL' sT' sD' sM' sX' mk si sl sf ss forms sizes items moved latest rows fresh oldMask oldRows known drawn label pile parts waitX' waitY' waitSide' waits' sign' signs' many')) := by
  have hI0 := hI
  obtain ⟨i1, i2, i3, i4, i5, i6, i7⟩ := hI
  by_cases h1 : vp_in a1 4
  · by_cases h2 : vp_in a2 4
    · obtain ⟨m, hm, rfl⟩ := vp_in_of h1 (by omega)
      refine qs_blocks i7 hm (i3 m hm).1 h2 (fun S L T D M X hS => ?_)
      unfold wp_Md_blocks
      rw [f_isMask, brA h1, br1, f_i3, brA h2, br1]
      refine qt_blocks hm h2 (fun b1 b2 b3 b4 b5 b6 b7 => ⟨?_, i1, i2, i3, i4, i5, i6, hS⟩)
      rw [dk_eq (mg_rows i3 hm)]
    · simp only [wp_Qm_blocks, wp_Md_blocks, e_isMask, f_isMask, e_w4, f_i3, br1, br0, h1, h2, not_true_eq_false, not_false_eq_true, true_implies, false_implies, and_true, true_and]
      exact hI0
  · simp only [wp_Qm_blocks, wp_Md_blocks, e_isMask, f_isMask, br1, br0, h1, not_true_eq_false, not_false_eq_true, true_implies, false_implies, and_true, true_and]
    exact hI0
theorem st_shown {lf : Int32} {chM : IA} {chR : IA} {chN : Int32} {chK : Int32} {md : IA} {sp : IA} {dS : IA} {dL : IA} {dR : IA} {dF : IA} {dP : Int32} {lS : IA} {lL : IA} {lR : IA} {lF : IA} {lP : Int32} {sS : IA} {sL : IA} {sT : Int32} {sD : Int32} {sM : Int32} {sX : Int32} {mk : Nat → IA} {si : Nat → IA} {sl : IA} {sf : IA} {ss : IA} {forms : IA} {sizes : IA} {items : IA} {moved : IA} {latest : Int32} {rows : IA} {fresh : IA} {oldMask : IA} {oldRows : IA} {known : Int32} {drawn : Int32} {label : IA} {pile : IA} {parts : Int32} {waitX : IA} {waitY : IA} {waitSide : IA} {waits : Int32} {sign : IA} {signs : Int32} {many : IA} (hI : Inv lf chM chR chN chK md sp dS dL dR dF dP lS lL lR lF lP sS sL sT sD sM sX mk si sl sf ss forms sizes items moved latest rows fresh oldMask oldRows known drawn label pile parts waitX waitY waitSide waits sign signs many) (a1 : Int32) (a2 : Int32) : wp_Qm_shown sS sL sT sD sM sX mk a1 a2 (fun r sS' sL' sT' sD' sM' sX' => wp_Md_shown rows waitX waitY waitSide waits sign signs many a1 a2 (fun r2 waitX' waitY' waitSide' waits' sign' signs' many' => r = r2 ∧ Inv lf chM chR chN chK md sp dS dL dR dF dP lS lL lR lF lP sS' sL' sT' sD' sM' sX' mk si sl sf ss forms sizes items moved latest rows fresh oldMask oldRows known drawn label pile parts waitX' waitY' waitSide' waits' sign' signs' many')) := by
  have hI0 := hI
  obtain ⟨i1, i2, i3, i4, i5, i6, i7⟩ := hI
  by_cases h1 : vp_in a1 4
  · by_cases h2 : a2 = (-1) ∨ vp_in a2 341
    · obtain ⟨m, hm, rfl⟩ := vp_in_of h1 (by omega)
      refine qs_shown i7 hm (i3 m hm).1 h2 (fun S L T D M X hS => ?_)
      unfold wp_Md_shown
      rw [f_isMask, brA h1, br1, f_im1, brA h2, br1]
      refine qt_shown hm h2 (fun b1 b2 b3 b4 b5 b6 b7 => ⟨?_, i1, i2, i3, i4, i5, i6, hS⟩)
      rw [dk_eq (mg_rows i3 hm)]
    · have h3 : ¬ a2 = (-1) := fun w => h2 (Or.inl w)
      have h4 : ¬ vp_in a2 341 := fun w => h2 (Or.inr w)
      unfold wp_Qm_shown
      rw [e_isMask, brA h1, br1]
      dsimp only [jn]
      rw [brB h3, e_w341, brB h4, br0]
      unfold wp_Md_shown
      rw [f_isMask, brA h1, br1, f_im1, brB h2, br0]
      exact ⟨rfl, hI0⟩
  · simp only [wp_Qm_shown, wp_Md_shown, e_isMask, f_isMask, br1, br0, h1, not_true_eq_false, not_false_eq_true, true_implies, false_implies, and_true, true_and]
    exact hI0
theorem st_write {lf : Int32} {chM : IA} {chR : IA} {chN : Int32} {chK : Int32} {md : IA} {sp : IA} {dS : IA} {dL : IA} {dR : IA} {dF : IA} {dP : Int32} {lS : IA} {lL : IA} {lR : IA} {lF : IA} {lP : Int32} {sS : IA} {sL : IA} {sT : Int32} {sD : Int32} {sM : Int32} {sX : Int32} {mk : Nat → IA} {si : Nat → IA} {sl : IA} {sf : IA} {ss : IA} {forms : IA} {sizes : IA} {items : IA} {moved : IA} {latest : Int32} {rows : IA} {fresh : IA} {oldMask : IA} {oldRows : IA} {known : Int32} {drawn : Int32} {label : IA} {pile : IA} {parts : Int32} {waitX : IA} {waitY : IA} {waitSide : IA} {waits : Int32} {sign : IA} {signs : Int32} {many : IA} (hI : Inv lf chM chR chN chK md sp dS dL dR dF dP lS lL lR lF lP sS sL sT sD sM sX mk si sl sf ss forms sizes items moved latest rows fresh oldMask oldRows known drawn label pile parts waitX waitY waitSide waits sign signs many) (a1 : Int32) (a2 : Int32) (a3 : Int32) : wp_Qm_write lf sS sL sT sD sM sX mk si sl sf ss a1 a2 a3 (fun r lf' sS' sL' sT' sD' sM' sX' si' => wp_Md_write forms sizes items latest rows waitX waitY waitSide waits sign signs many a1 a2 a3 (fun r2 items' latest' waitX' waitY' waitSide' waits' sign' signs' many' => r = r2 ∧ Inv lf' chM chR chN chK md sp dS dL dR dF dP lS lL lR lF lP sS' sL' sT' sD' sM' sX' mk si' sl sf ss forms sizes items' moved latest' rows fresh oldMask oldRows known drawn label pile parts waitX' waitY' waitSide' waits' sign' signs' many')) := by
  have hI0 := hI
  obtain ⟨i1, i2, i3, i4, i5, i6, i7⟩ := hI
  by_cases h1 : vp_in a1 4
  · by_cases h2 : vp_in a2 341
    · by_cases h3 : vp_in a3 4
      · obtain ⟨m, hm, rfl⟩ := vp_in_of h1 (by omega)
        obtain ⟨i, hi, rfl⟩ := vp_in_of h2 (by omega)
        obtain ⟨s, hs, rfl⟩ := vp_in_of h3 (by omega)
        have hcm : (nI m).toNatClampNeg = m := clN (by omega)
        have hcs : (nI s).toNatClampNeg = s := clN (by omega)
        rcases i4 s hs with ⟨e1, e2⟩ | ⟨e1, f, n, hf, hn, e2, e3, e4, e5, e6⟩
        · simp only [wp_Qm_write, wp_Md_write, wp_Qm_found, wp_Md_finds, e_isMask, f_isMask, e_w341, f_i340, e_isSheet, f_isSheet, br1, br0, h1, h2, h3, hcs, e1, e2, brB n0m1, not_true_eq_false, not_false_eq_true, true_implies, false_implies, and_true, true_and]
          exact ⟨rfl, i2, i3, i4, i5, i6, i7⟩
        · have h5 : 0 ≤ nI f := nI_pos' (by omega)
          unfold wp_Qm_write
          rw [e_isMask, brA h1, br1, e_w341, brA h2, br1, e_isSheet, brA h3, br1, hcs, hcm, e1, br0]
          refine ⟨h3, h1, s_siLook i7 (i3 m hm).1 (fun S L T D M X hS ed => ⟨h3, fun w ew => ?_⟩)⟩
          have hS2 := hS
          obtain ⟨b1, b2, b3, b4, b5, b6⟩ := hS
          have ed2 : dk S = dk (mg rows m) := ed.trans (dk_eq (mg_rows i3 hm))
          rw [ed2] at b2 b3
          have hlen := sq_341 (dk (mg rows m)) 0 0
          rw [e4, b2, w_many hn hlen hi] at ew
          subst ew
          by_cases hle : i ≤ (sq (dk (mg rows m)) 4 0 0).length
          · refine s_writeL hs e2 e4 hn (by omega) hlen (by omega) b3 b2 (fun si' c1 c2 c3 => ?_)
            unfold wp_Md_write
            rw [f_isMask, brA h1, br1, f_i340, brA h2, br1, f_isSheet, brA h3, br1, hcs, e3, brA h5, e5]
            refine ⟨h3, t_shows hm (fun wX' wY' wS' ww sg' mn' g1 g2 g3 g4 g5 => ⟨h3, ?_⟩)⟩
            refine t_many hn hlen hi ?_
            refine t_writeL hs e3 (by omega) hlen (by omega) g1 (fun items' d1 d2 => ⟨rfl, i1, i2, i3, ?_, i5, i6, hS2⟩)
            refine sh_put3 i4 hs c1 (fun j hj => d2 j (by omega)) (fun n' hn' en' w' k hk => ?_)
            by_cases q : k < min n ((sq (dk (mg rows m)) 4 0 0).length - i)
            · rw [c2 k q, d1 k q]
            · rw [c3 k (by omega), d2 _ (by omega), w' k hk]
          · have hN : min n ((sq (dk (mg rows m)) 4 0 0).length - i) = 0 := by omega
            rw [hN]
            refine ⟨1, ?_⟩
            show wl_Qm_write_88 _ _ _ _ _ _ _ _ _ _ _ _ _ (0 + 1) _ _
            rw [wl_Qm_write_88]
            refine ⟨fun _ => ?_, fun w => absurd (by decide) w⟩
            unfold wp_Md_write
            rw [f_isMask, brA h1, br1, f_i340, brA h2, br1, f_isSheet, brA h3, br1, hcs, e3, brA h5, e5]
            refine ⟨h3, t_shows hm (fun wX' wY' wS' ww sg' mn' g1 g2 g3 g4 g5 => ⟨h3, ?_⟩)⟩
            refine t_many hn hlen hi ?_
            rw [hN]
            refine ⟨1, ?_⟩
            show wl_Md_write_73 _ _ _ _ _ _ _ _ _ _ _ _ _ (0 + 1) _ _
            rw [wl_Md_write_73]
            exact ⟨fun _ => ⟨rfl, i1, i2, i3, i4, i5, i6, hS2⟩, fun w => absurd (by decide) w⟩
      · simp only [wp_Qm_write, wp_Md_write, e_isMask, f_isMask, e_w341, f_i340, e_isSheet, f_isSheet, br1, br0, h1, h2, h3, not_true_eq_false, not_false_eq_true, true_implies, false_implies, and_true, true_and]
        exact hI0
    · simp only [wp_Qm_write, wp_Md_write, e_isMask, f_isMask, e_w341, f_i340, br1, br0, h1, h2, not_true_eq_false, not_false_eq_true, true_implies, false_implies, and_true, true_and]
      exact hI0
  · simp only [wp_Qm_write, wp_Md_write, e_isMask, f_isMask, br1, br0, h1, not_true_eq_false, not_false_eq_true, true_implies, false_implies, and_true, true_and]
    exact hI0
