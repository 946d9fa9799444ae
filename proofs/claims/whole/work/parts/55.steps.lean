/-! The steps. -/
theorem st_label {lf : Int32} {chM : IA} {chR : IA} {chN : Int32} {chK : Int32} {md : IA} {sp : IA} {dS : IA} {dL : IA} {dR : IA} {dF : IA} {dP : Int32} {lS : IA} {lL : IA} {lR : IA} {lF : IA} {lP : Int32} {sS : IA} {sL : IA} {sT : Int32} {sD : Int32} {sM : Int32} {sX : Int32} {mk : Nat → IA} {si : Nat → IA} {sl : IA} {sf : IA} {ss : IA} {forms : IA} {sizes : IA} {items : IA} {moved : IA} {latest : Int32} {rows : IA} {fresh : IA} {oldMask : IA} {oldRows : IA} {known : Int32} {drawn : Int32} {label : IA} {pile : IA} {parts : Int32} {waitX : IA} {waitY : IA} {waitSide : IA} {waits : Int32} {sign : IA} {signs : Int32} {many : IA} (hI : Inv lf chM chR chN chK md sp dS dL dR dF dP lS lL lR lF lP sS sL sT sD sM sX mk si sl sf ss forms sizes items moved latest rows fresh oldMask oldRows known drawn label pile parts waitX waitY waitSide waits sign signs many) (a1 : Int32) (a2 : Int32) (a3 : Int32) : wp_Qm_label dS dL dR dF dP mk a1 a2 a3 (fun r dS' dL' dR' dF' dP' => wp_Md_label rows label pile parts a1 a2 a3 (fun r2 label' pile' parts' => r = r2 ∧ Inv lf chM chR chN chK md sp dS' dL' dR' dF' dP' lS lL lR lF lP sS sL sT sD sM sX mk si sl sf ss forms sizes items moved latest rows fresh oldMask oldRows known drawn label' pile' parts' waitX waitY waitSide waits sign signs many)) := by
  have hI0 := hI
  obtain ⟨i1, i2, i3, i4, i5, i6, i7⟩ := hI
  by_cases h1 : vp_in a1 4
  · by_cases h2 : vp_in a2 16 ∧ vp_in a3 16
    · obtain ⟨m, hm, rfl⟩ := vp_in_of h1 (by omega)
      obtain ⟨x, hx, rfl⟩ := vp_in_of h2.1 (by omega)
      obtain ⟨y, hy, rfl⟩ := vp_in_of h2.2 (by omega)
      refine qs_label i5 hm (i3 m hm).1 hx hy (fun S L R F P hP => ?_)
      dsimp only [wp_Md_label]
      rw [f_isMask, brA h1, br1, f_isCell, brA h2, br1]
      refine t_labF hm (fun lab pile' hl hn hL => ?_)
      have ec : (16 : Int32) * nI y + nI x = nI (16 * y + x) := by
        rw [show (16 : Int32) = nI 16 from rfl, pk_mul, nI_add]
      rw [ec, clN (by omega)]
      refine ⟨vp_in_nI (by omega) (by omega), ?_, i1, i2, i3, i4, hP, i6, i7⟩
      rw [hl _ (by omega), dk_eq (mg_rows i3 hm)]
    · simp only [wp_Qm_label, wp_Md_label, e_isMask, f_isMask, e_isCell, f_isCell, br1, br0, h1, h2, not_true_eq_false, not_false_eq_true, true_implies, false_implies, and_true, true_and]
      exact hI0
  · simp only [wp_Qm_label, wp_Md_label, e_isMask, f_isMask, br1, br0, h1, not_true_eq_false, not_false_eq_true, true_implies, false_implies, and_true, true_and]
    exact hI0
theorem st_part {lf : Int32} {chM : IA} {chR : IA} {chN : Int32} {chK : Int32} {md : IA} {sp : IA} {dS : IA} {dL : IA} {dR : IA} {dF : IA} {dP : Int32} {lS : IA} {lL : IA} {lR : IA} {lF : IA} {lP : Int32} {sS : IA} {sL : IA} {sT : Int32} {sD : Int32} {sM : Int32} {sX : Int32} {mk : Nat → IA} {si : Nat → IA} {sl : IA} {sf : IA} {ss : IA} {forms : IA} {sizes : IA} {items : IA} {moved : IA} {latest : Int32} {rows : IA} {fresh : IA} {oldMask : IA} {oldRows : IA} {known : Int32} {drawn : Int32} {label : IA} {pile : IA} {parts : Int32} {waitX : IA} {waitY : IA} {waitSide : IA} {waits : Int32} {sign : IA} {signs : Int32} {many : IA} (hI : Inv lf chM chR chN chK md sp dS dL dR dF dP lS lL lR lF lP sS sL sT sD sM sX mk si sl sf ss forms sizes items moved latest rows fresh oldMask oldRows known drawn label pile parts waitX waitY waitSide waits sign signs many) (a1 : Int32) (a2 : Int32) (a3 : Int32) : wp_Qm_part dS dL dR dF dP mk a1 a2 a3 (fun r dS' dL' dR' dF' dP' => wp_Md_part rows label pile parts a1 a2 a3 (fun r2 label' pile' parts' => r = r2 ∧ Inv lf chM chR chN chK md sp dS' dL' dR' dF' dP' lS lL lR lF lP sS sL sT sD sM sX mk si sl sf ss forms sizes items moved latest rows fresh oldMask oldRows known drawn label' pile' parts' waitX waitY waitSide waits sign signs many)) := by
  have hI0 := hI
  obtain ⟨i1, i2, i3, i4, i5, i6, i7⟩ := hI
  by_cases h1 : vp_in a1 4
  · obtain ⟨m, hm, rfl⟩ := vp_in_of h1 (by omega)
    by_cases h2 : vp_in a3 6
    · obtain ⟨w, hw, rfl⟩ := vp_in_of h2 (by omega)
      refine qs_part i5 hm (i3 m hm).1 hw (fun S L R F P hP => ?_)
      dsimp only [wp_Md_part]
      rw [f_isMask, brA h1, br1]
      refine qt_part hm hw (fun b1 b2 b3 => ⟨?_, i1, i2, i3, i4, hP, i6, i7⟩)
      rw [dk_eq (mg_rows i3 hm)]
    · unfold wp_Qm_part
      rw [e_isMask, brA h1, br1, e_w6, brB h2, br0]
      dsimp only [wp_Md_part, wp_Md_partOr]
      rw [f_isMask, brA h1, br1]
      refine t_labF hm (fun lab pile' hl hn hL => ?_)
      rw [f_inS _ (by omega)]
      refine ⟨fun _ => ?_, fun _ => ?_⟩
      · rw [br1, f_i5, brB h2, br0]
        exact ⟨rfl, hI0⟩
      · rw [br0]
        exact ⟨rfl, hI0⟩
  · simp only [wp_Qm_part, wp_Md_part, e_isMask, f_isMask, br1, br0, h1, not_true_eq_false, not_false_eq_true, true_implies, false_implies, and_true, true_and]
    exact hI0
theorem st_all {lf : Int32} {chM : IA} {chR : IA} {chN : Int32} {chK : Int32} {md : IA} {sp : IA} {dS : IA} {dL : IA} {dR : IA} {dF : IA} {dP : Int32} {lS : IA} {lL : IA} {lR : IA} {lF : IA} {lP : Int32} {sS : IA} {sL : IA} {sT : Int32} {sD : Int32} {sM : Int32} {sX : Int32} {mk : Nat → IA} {si : Nat → IA} {sl : IA} {sf : IA} {ss : IA} {forms : IA} {sizes : IA} {items : IA} {moved : IA} {latest : Int32} {rows : IA} {fresh : IA} {oldMask : IA} {oldRows : IA} {known : Int32} {drawn : Int32} {label : IA} {pile : IA} {parts : Int32} {waitX : IA} {waitY : IA} {waitSide : IA} {waits : Int32} {sign : IA} {signs : Int32} {many : IA} (hI : Inv lf chM chR chN chK md sp dS dL dR dF dP lS lL lR lF lP sS sL sT sD sM sX mk si sl sf ss forms sizes items moved latest rows fresh oldMask oldRows known drawn label pile parts waitX waitY waitSide waits sign signs many) (a1 : Int32) (a2 : Int32) : wp_Qm_all sp dS dL dR dF dP lS lL lR lF lP mk a1 a2 (fun r sp' dS' dL' dR' dF' dP' lS' lL' lR' lF' lP' => wp_Md_all rows label pile parts a1 a2 (fun r2 label' pile' parts' => r = r2 ∧ Inv lf chM chR chN chK md sp' dS' dL' dR' dF' dP' lS' lL' lR' lF' lP' sS sL sT sD sM sX mk si sl sf ss forms sizes items moved latest rows fresh oldMask oldRows known drawn label' pile' parts' waitX waitY waitSide waits sign signs many)) := by
  have hI0 := hI
  obtain ⟨i1, i2, i3, i4, i5, i6, i7⟩ := hI
  by_cases h1 : vp_in a1 4
  · by_cases h2 : vp_in a2 4
    · obtain ⟨m, hm, rfl⟩ := vp_in_of h1 (by omega)
      refine qs_all i5 i6 hm (i3 m hm).1 h2 (fun sp' S L R F P S2 L2 R2 F2 P2 hP hP2 => ?_)
      dsimp only [wp_Md_all]
      rw [f_isMask, brA h1, br1, f_i3, brA h2, br1]
      refine qt_all hm (fun b1 b2 b3 => ⟨?_, i1, i2, i3, i4, hP, hP2, i7⟩)
      rw [dk_eq (mg_rows i3 hm)]
    · simp only [wp_Qm_all, wp_Md_all, e_isMask, f_isMask, e_w4, f_i3, br1, br0, h1, h2, not_true_eq_false, not_false_eq_true, true_implies, false_implies, and_true, true_and]
      exact hI0
  · simp only [wp_Qm_all, wp_Md_all, e_isMask, f_isMask, br1, br0, h1, not_true_eq_false, not_false_eq_true, true_implies, false_implies, and_true, true_and]
    exact hI0
theorem st_pick {lf : Int32} {chM : IA} {chR : IA} {chN : Int32} {chK : Int32} {md : IA} {sp : IA} {dS : IA} {dL : IA} {dR : IA} {dF : IA} {dP : Int32} {lS : IA} {lL : IA} {lR : IA} {lF : IA} {lP : Int32} {sS : IA} {sL : IA} {sT : Int32} {sD : Int32} {sM : Int32} {sX : Int32} {mk : Nat → IA} {si : Nat → IA} {sl : IA} {sf : IA} {ss : IA} {forms : IA} {sizes : IA} {items : IA} {moved : IA} {latest : Int32} {rows : IA} {fresh : IA} {oldMask : IA} {oldRows : IA} {known : Int32} {drawn : Int32} {label : IA} {pile : IA} {parts : Int32} {waitX : IA} {waitY : IA} {waitSide : IA} {waits : Int32} {sign : IA} {signs : Int32} {many : IA} (hI : Inv lf chM chR chN chK md sp dS dL dR dF dP lS lL lR lF lP sS sL sT sD sM sX mk si sl sf ss forms sizes items moved latest rows fresh oldMask oldRows known drawn label pile parts waitX waitY waitSide waits sign signs many) (a1 : Int32) (a2 : Int32) (a3 : Int32) (a4 : Int32) : wp_Qm_pick chM chR chN chK md dS dL dR dF dP mk a1 a2 a3 a4 (fun r chM' chR' chN' chK' md' dS' dL' dR' dF' dP' mk' => wp_Md_pick rows fresh oldMask oldRows known label pile parts a1 a2 a3 a4 (fun r2 rows' fresh' oldMask' oldRows' known' label' pile' parts' => r = r2 ∧ Inv lf chM' chR' chN' chK' md' sp dS' dL' dR' dF' dP' lS lL lR lF lP sS sL sT sD sM sX mk' si sl sf ss forms sizes items moved latest rows' fresh' oldMask' oldRows' known' drawn label' pile' parts' waitX waitY waitSide waits sign signs many)) := by
  have hI0 := hI
  obtain ⟨i1, i2, i3, i4, i5, i6, i7⟩ := hI
  by_cases h1 : vp_in a1 4
  · by_cases h2 : vp_in a2 16 ∧ vp_in a3 16
    · by_cases h3 : vp_in a4 4
      · obtain ⟨m, hm, rfl⟩ := vp_in_of h1 (by omega)
        obtain ⟨x, hx, rfl⟩ := vp_in_of h2.1 (by omega)
        obtain ⟨y, hy, rfl⟩ := vp_in_of h2.2 (by omega)
        obtain ⟨t, ht, rfl⟩ := vp_in_of h3 (by omega)
        have ed : dk (mk m) = dk (mg rows m) := dk_eq (mg_rows i3 hm)
        have hcm : (nI m).toNatClampNeg = m := clN (by omega)
        unfold wp_Qm_pick
        rw [e_isMask, brA h1, br1, e_isCell, brA h2, br1, e_isMask, brA h3, br1, hcm]
        refine ⟨h1, s_paF i5 (i3 m hm).1 (fun S L R F P hP hf => ?_)⟩
        rw [ed] at hf
        obtain ⟨f1, f2, f3, f4, f5, f6⟩ := hf
        have hc : 16 * y + x < 256 := by omega
        have m1 : (16 * y + x) % 16 = x := by omega
        have m2 : (16 * y + x) / 16 = y := by omega
        rw [e_labelAt L hx hy, f3 _ hc]
        cases hd : dk (mg rows m) x y
        · have e : labC (dk (mg rows m)) (16 * y + x) = (-1) := f5.1 _ hc (by rw [dc_in hc, m1, m2]; exact hd)
          rw [brA e]
          dsimp only [wp_Md_pick]
          rw [f_isMask, brA h1, br1, f_isCell, brA h2, br1, f_isMask, brA h3, br1, e_darkN rows hm hx hy, hd]
          exact ⟨fun _ => ⟨rfl, i1, i2, i3, i4, hP, i6, i7⟩, fun q => absurd rfl q⟩
        · obtain ⟨k, hk, e⟩ := f5.2.1 _ hc (show dc (dk (mg rows m)) (16 * y + x) = true by rw [dc_in hc, m1, m2]; exact hd)
          rw [brB (show ¬ labC (dk (mg rows m)) (16 * y + x) = (-1) by rw [e]; exact nI_m1 (by omega))]
          refine s_pickL (fun md' hmd' => ?_)
          unfold wx_Qm_pick_95
          refine bec2 ht i3 i2 hmd'.1 (fun r p1 p2 p3 p4 p5 hbb => ?_)
          dsimp only [wp_Md_pick]
          rw [f_isMask, brA h1, br1, f_isCell, brA h2, br1, f_isMask, brA h3, br1, e_darkN rows hm hx hy, hd]
          refine ⟨fun q => absurd q (by decide), fun _ => ?_⟩
          refine t_labF hm (fun lab pile' hl hn hL => ?_)
          refine t_clears (fun f0 hf0 => ?_)
          refine t_pickL hx hy (rows0 hf0) (fun f' hf' => ?_)
          unfold wx_Md_pick_106
          refine hbb f' _ (rowsS_eq hmd' (rowsS_congr hf' (fun X Y hX hY => ?_))) (fun q1 q2 q3 q4 w1 w2 => ⟨rfl, i1, w2, w1, i4, hP, i6, i7⟩)
          rw [hl _ (by omega), hl _ hc, f3 _ (by omega)]
      · simp only [wp_Qm_pick, wp_Md_pick, e_isMask, f_isMask, e_isCell, f_isCell, br1, br0, h1, h2, h3, not_true_eq_false, not_false_eq_true, true_implies, false_implies, and_true, true_and]
        exact hI0
    · simp only [wp_Qm_pick, wp_Md_pick, e_isMask, f_isMask, e_isCell, f_isCell, br1, br0, h1, h2, not_true_eq_false, not_false_eq_true, true_implies, false_implies, and_true, true_and]
      exact hI0
  · simp only [wp_Qm_pick, wp_Md_pick, e_isMask, f_isMask, br1, br0, h1, not_true_eq_false, not_false_eq_true, true_implies, false_implies, and_true, true_and]
    exact hI0
