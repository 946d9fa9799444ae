/-! The steps. -/
theorem st_sheet {lf : Int32} {chM : IA} {chR : IA} {chN : Int32} {chK : Int32} {md : IA} {sp : IA} {dS : IA} {dL : IA} {dR : IA} {dF : IA} {dP : Int32} {lS : IA} {lL : IA} {lR : IA} {lF : IA} {lP : Int32} {sS : IA} {sL : IA} {sT : Int32} {sD : Int32} {sM : Int32} {sX : Int32} {mk : Nat → IA} {si : Nat → IA} {sl : IA} {sf : IA} {ss : IA} {forms : IA} {sizes : IA} {items : IA} {moved : IA} {latest : Int32} {rows : IA} {fresh : IA} {oldMask : IA} {oldRows : IA} {known : Int32} {drawn : Int32} {label : IA} {pile : IA} {parts : Int32} {waitX : IA} {waitY : IA} {waitSide : IA} {waits : Int32} {sign : IA} {signs : Int32} {many : IA} (hI : Inv lf chM chR chN chK md sp dS dL dR dF dP lS lL lR lF lP sS sL sT sD sM sX mk si sl sf ss forms sizes items moved latest rows fresh oldMask oldRows known drawn label pile parts waitX waitY waitSide waits sign signs many) (a1 : Int32) (a2 : Int32) (a3 : Int32) : wp_Qm_sheet lf si sl sf ss a1 a2 a3 (fun r lf' si' sl' sf' ss' => wp_Md_sheet forms sizes items latest a1 a2 a3 (fun r2 forms' sizes' items' latest' => r = r2 ∧ Inv lf' chM chR chN chK md sp dS dL dR dF dP lS lL lR lF lP sS sL sT sD sM sX mk si' sl' sf' ss' forms' sizes' items' moved latest' rows fresh oldMask oldRows known drawn label pile parts waitX waitY waitSide waits sign signs many)) := by
  have hI0 := hI
  obtain ⟨i1, i2, i3, i4, i5, i6, i7⟩ := hI
  by_cases h1 : vp_in a1 4
  · by_cases h2 : vp_in a2 3
    · by_cases h3 : a3 ≤ 60
      · by_cases h4 : 0 ≤ a3
        · obtain ⟨s, hs, rfl⟩ := vp_in_of h1 (by omega)
          obtain ⟨f, hf, rfl⟩ := vp_in_of h2 (by omega)
          obtain ⟨n, hn, rfl⟩ : ∃ n : Nat, n ≤ 60 ∧ a3 = nI n := nI_of2 (M := 60) rfl (nn0 h4) h3
          simp only [wp_Qm_sheet, wp_Sh_begin, e_isSheet, e_w3, br1, br0, h1, h2, h3, h4, not_true_eq_false, not_false_eq_true, true_implies, false_implies, and_true, true_and]
          rw [clN (by omega)]
          refine s_Ar_fill _ 60 0 (by omega) (fun g hg _ => ?_)
          simp only [wp_Md_sheet, f_isSheet, f_i2, br1, br0, h1, h2, h3, h4, not_true_eq_false, not_false_eq_true, true_implies, false_implies, and_true, true_and]
          intro fo efo fz efz
          subst efo; subst efz
          rw [clN (by omega)]
          refine t_sheetL hs hn (fun items' w1 w2 => ⟨rfl, i1, i2, i3, ?_, i5, i6, i7⟩)
          refine sh_put i4 hs w2 (Or.inr ⟨rfl, f, n, hf, hn, rfl, rfl, rfl, rfl, fun i hi => ?_⟩)
          rw [hg i (by omega), w1 i hi]
        · simp only [wp_Qm_sheet, wp_Md_sheet, wp_Qm_found, wp_Md_finds, e_isSheet, f_isSheet, e_w3, f_i2, br1, br0, h1, h2, h3, h4, not_true_eq_false, not_false_eq_true, true_implies, false_implies, and_true, true_and]
          exact ⟨rfl, i2, i3, i4, i5, i6, i7⟩
      · simp only [wp_Qm_sheet, wp_Md_sheet, e_isSheet, f_isSheet, e_w3, f_i2, br1, br0, h1, h2, h3, not_true_eq_false, not_false_eq_true, true_implies, false_implies, and_true, true_and]
        exact hI0
    · simp only [wp_Qm_sheet, wp_Md_sheet, e_isSheet, f_isSheet, e_w3, f_i2, br1, br0, h1, h2, not_true_eq_false, not_false_eq_true, true_implies, false_implies, and_true, true_and]
      exact hI0
  · simp only [wp_Qm_sheet, wp_Md_sheet, e_isSheet, f_isSheet, br1, br0, h1, not_true_eq_false, not_false_eq_true, true_implies, false_implies, and_true, true_and]
    exact hI0
theorem st_lose {lf : Int32} {chM : IA} {chR : IA} {chN : Int32} {chK : Int32} {md : IA} {sp : IA} {dS : IA} {dL : IA} {dR : IA} {dF : IA} {dP : Int32} {lS : IA} {lL : IA} {lR : IA} {lF : IA} {lP : Int32} {sS : IA} {sL : IA} {sT : Int32} {sD : Int32} {sM : Int32} {sX : Int32} {mk : Nat → IA} {si : Nat → IA} {sl : IA} {sf : IA} {ss : IA} {forms : IA} {sizes : IA} {items : IA} {moved : IA} {latest : Int32} {rows : IA} {fresh : IA} {oldMask : IA} {oldRows : IA} {known : Int32} {drawn : Int32} {label : IA} {pile : IA} {parts : Int32} {waitX : IA} {waitY : IA} {waitSide : IA} {waits : Int32} {sign : IA} {signs : Int32} {many : IA} (hI : Inv lf chM chR chN chK md sp dS dL dR dF dP lS lL lR lF lP sS sL sT sD sM sX mk si sl sf ss forms sizes items moved latest rows fresh oldMask oldRows known drawn label pile parts waitX waitY waitSide waits sign signs many) (a1 : Int32) : wp_Qm_lose lf sl ss a1 (fun r lf' sl' => wp_Md_lose forms sizes latest a1 (fun r2 forms' latest' => r = r2 ∧ Inv lf' chM chR chN chK md sp dS dL dR dF dP lS lL lR lF lP sS sL sT sD sM sX mk si sl' sf ss forms' sizes items moved latest' rows fresh oldMask oldRows known drawn label pile parts waitX waitY waitSide waits sign signs many)) := by
  have hI0 := hI
  obtain ⟨i1, i2, i3, i4, i5, i6, i7⟩ := hI
  by_cases h1 : vp_in a1 4
  · obtain ⟨s, hs, rfl⟩ := vp_in_of h1 (by omega)
    have hc : (nI s).toNatClampNeg = s := clN (by omega)
    rcases i4 s hs with ⟨e1, e2⟩ | ⟨e1, f, n, hf, hn, e2, e3, e4, e5, e6⟩
    · simp only [wp_Qm_lose, wp_Md_lose, wp_Qm_found, wp_Md_finds, e_isSheet, f_isSheet, br1, br0, h1, hc, e1, e2, brB n0m1, not_true_eq_false, not_false_eq_true, true_implies, false_implies, and_true, true_and]
      exact ⟨rfl, i2, i3, i4, i5, i6, i7⟩
    · have h5 : 0 ≤ nI f := nI_pos' (by omega)
      simp only [wp_Qm_lose, wp_Md_lose, e_isSheet, f_isSheet, br1, br0, h1, hc, e1, e3, h5, not_true_eq_false, not_false_eq_true, true_implies, false_implies, and_true, true_and]
      intro fo efo
      subst efo
      exact ⟨by rw [e4, e5], i1, i2, i3, sh_lost i4 hs, i5, i6, i7⟩
  · simp only [wp_Qm_lose, wp_Md_lose, e_isSheet, f_isSheet, br1, br0, h1, not_true_eq_false, not_false_eq_true, true_implies, false_implies, and_true, true_and]
    exact hI0
theorem st_lay {lf : Int32} {chM : IA} {chR : IA} {chN : Int32} {chK : Int32} {md : IA} {sp : IA} {dS : IA} {dL : IA} {dR : IA} {dF : IA} {dP : Int32} {lS : IA} {lL : IA} {lR : IA} {lF : IA} {lP : Int32} {sS : IA} {sL : IA} {sT : Int32} {sD : Int32} {sM : Int32} {sX : Int32} {mk : Nat → IA} {si : Nat → IA} {sl : IA} {sf : IA} {ss : IA} {forms : IA} {sizes : IA} {items : IA} {moved : IA} {latest : Int32} {rows : IA} {fresh : IA} {oldMask : IA} {oldRows : IA} {known : Int32} {drawn : Int32} {label : IA} {pile : IA} {parts : Int32} {waitX : IA} {waitY : IA} {waitSide : IA} {waits : Int32} {sign : IA} {signs : Int32} {many : IA} (hI : Inv lf chM chR chN chK md sp dS dL dR dF dP lS lL lR lF lP sS sL sT sD sM sX mk si sl sf ss forms sizes items moved latest rows fresh oldMask oldRows known drawn label pile parts waitX waitY waitSide waits sign signs many) (a1 : Int32) (a2 : Int32) (a3 : Int32) (a4 : Int32) : wp_Qm_lay lf si sl sf ss a1 a2 a3 a4 (fun r lf' si' => wp_Md_lay forms sizes items latest a1 a2 a3 a4 (fun r2 items' latest' => r = r2 ∧ Inv lf' chM chR chN chK md sp dS dL dR dF dP lS lL lR lF lP sS sL sT sD sM sX mk si' sl sf ss forms sizes items' moved latest' rows fresh oldMask oldRows known drawn label pile parts waitX waitY waitSide waits sign signs many)) := by
  have hI0 := hI
  obtain ⟨i1, i2, i3, i4, i5, i6, i7⟩ := hI
  by_cases h1 : vp_in a1 4
  · by_cases h2 : vp_in a2 3
    · obtain ⟨s, hs, rfl⟩ := vp_in_of h1 (by omega)
      have hc : (nI s).toNatClampNeg = s := clN (by omega)
      rcases i4 s hs with ⟨e1, e2⟩ | ⟨e1, f, n, hf, hn, e2, e3, e4, e5, e6⟩
      · simp only [wp_Qm_lay, wp_Md_lay, wp_Md_lacks, wp_Qm_findingAt, wp_Qm_found, wp_Md_finds, e_isSheet, f_isSheet, e_w3, f_i2, br1, br0, h1, h2, hc, e1, e2, brB n0m1, not_true_eq_false, not_false_eq_true, true_implies, false_implies, and_true, true_and]
        rw [brB (show ¬ ((-10 : Int32) - 1) = 0 by decide)]
        exact ⟨rfl, i2, i3, i4, i5, i6, i7⟩
      · have h5 : 0 ≤ nI f := nI_pos' (by omega)
        by_cases h6 : nI f = a2
        · subst h6
          by_cases h7 : vp_in a3 n
          · obtain ⟨i, hi, rfl⟩ := vp_in_of h7 (by omega)
            simp only [wp_Qm_lay, wp_Qm_findingAt, e_isSheet, e_w3, e_within _ n (by omega), br1, br0, h1, h2, hc, e1, e2, e4, h7, e_setItem hn hi, not_true_eq_false, not_false_eq_true, true_implies, false_implies, and_true, true_and]
            simp only [wp_Md_lay, wp_Md_lacks, f_isSheet, f_i2, f_inS _ (show n ≤ 1000 by omega), e_cut, br1, br0, h1, h2, hc, e3, e5, h5, h7, ix240, not_true_eq_false, not_false_eq_true, true_implies, false_implies, and_true, true_and]
            rw [clN (by omega)]
            refine ⟨vp_in_nI (by omega) (by omega), fun it eit => ?_⟩
            subst eit
            refine ⟨i1, i2, i3, ?_, i5, i6, i7⟩
            refine sh_put2 i4 hs (fun j hj => pk_un (by omega)) (fun n' _ _ w j hj => ?_)
            by_cases q : j = i
            · subst q; rw [pk_us, pk_us]
            · rw [pk_un q, pk_un (by omega), w j hj]
          · simp only [wp_Qm_lay, wp_Md_lay, wp_Md_lacks, wp_Qm_findingAt, wp_Qm_found, wp_Md_finds, e_isSheet, f_isSheet, e_w3, f_i2, e_within _ n (by omega), f_inS _ (show n ≤ 1000 by omega), br1, br0, h1, h2, hc, e1, e2, e3, e4, e5, h5, h7, not_true_eq_false, not_false_eq_true, true_implies, false_implies, and_true, true_and]
            rw [brB (show ¬ (2 : Int32) = 0 by decide), brB (show ¬ ((-10 : Int32) - 2) = 0 by decide)]
            exact ⟨rfl, i2, i3, i4, i5, i6, i7⟩
        · simp only [wp_Qm_lay, wp_Md_lay, wp_Md_lacks, wp_Qm_findingAt, wp_Qm_found, wp_Md_finds, e_isSheet, f_isSheet, e_w3, f_i2, br1, br0, h1, h2, hc, e1, e2, e3, h5, h6, not_true_eq_false, not_false_eq_true, true_implies, false_implies, and_true, true_and]
          rw [brB (show ¬ (3 : Int32) = 0 by decide), brB (show ¬ ((-10 : Int32) - 3) = 0 by decide)]
          exact ⟨rfl, i2, i3, i4, i5, i6, i7⟩
    · simp only [wp_Qm_lay, wp_Md_lay, e_isSheet, f_isSheet, e_w3, f_i2, br1, br0, h1, h2, not_true_eq_false, not_false_eq_true, true_implies, false_implies, and_true, true_and]
      exact hI0
  · simp only [wp_Qm_lay, wp_Md_lay, e_isSheet, f_isSheet, br1, br0, h1, not_true_eq_false, not_false_eq_true, true_implies, false_implies, and_true, true_and]
    exact hI0
theorem st_get {lf : Int32} {chM : IA} {chR : IA} {chN : Int32} {chK : Int32} {md : IA} {sp : IA} {dS : IA} {dL : IA} {dR : IA} {dF : IA} {dP : Int32} {lS : IA} {lL : IA} {lR : IA} {lF : IA} {lP : Int32} {sS : IA} {sL : IA} {sT : Int32} {sD : Int32} {sM : Int32} {sX : Int32} {mk : Nat → IA} {si : Nat → IA} {sl : IA} {sf : IA} {ss : IA} {forms : IA} {sizes : IA} {items : IA} {moved : IA} {latest : Int32} {rows : IA} {fresh : IA} {oldMask : IA} {oldRows : IA} {known : Int32} {drawn : Int32} {label : IA} {pile : IA} {parts : Int32} {waitX : IA} {waitY : IA} {waitSide : IA} {waits : Int32} {sign : IA} {signs : Int32} {many : IA} (hI : Inv lf chM chR chN chK md sp dS dL dR dF dP lS lL lR lF lP sS sL sT sD sM sX mk si sl sf ss forms sizes items moved latest rows fresh oldMask oldRows known drawn label pile parts waitX waitY waitSide waits sign signs many) (a1 : Int32) (a2 : Int32) (a3 : Int32) : wp_Qm_get lf si sl sf ss a1 a2 a3 (fun r lf' => wp_Md_get forms sizes items latest a1 a2 a3 (fun r2 latest' => r = r2 ∧ Inv lf' chM chR chN chK md sp dS dL dR dF dP lS lL lR lF lP sS sL sT sD sM sX mk si sl sf ss forms sizes items moved latest' rows fresh oldMask oldRows known drawn label pile parts waitX waitY waitSide waits sign signs many)) := by
  have hI0 := hI
  obtain ⟨i1, i2, i3, i4, i5, i6, i7⟩ := hI
  by_cases h1 : vp_in a1 4
  · by_cases h2 : vp_in a2 3
    · obtain ⟨s, hs, rfl⟩ := vp_in_of h1 (by omega)
      have hc : (nI s).toNatClampNeg = s := clN (by omega)
      rcases i4 s hs with ⟨e1, e2⟩ | ⟨e1, f, n, hf, hn, e2, e3, e4, e5, e6⟩
      · simp only [wp_Qm_get, wp_Md_get, wp_Md_lacks, wp_Qm_findingAt, wp_Qm_found, wp_Md_finds, e_isSheet, f_isSheet, e_w3, f_i2, br1, br0, h1, h2, hc, e1, e2, brB n0m1, not_true_eq_false, not_false_eq_true, true_implies, false_implies, and_true, true_and]
        rw [brB (show ¬ ((-10 : Int32) - 1) = 0 by decide)]
        exact ⟨rfl, i2, i3, i4, i5, i6, i7⟩
      · have h5 : 0 ≤ nI f := nI_pos' (by omega)
        by_cases h6 : nI f = a2
        · subst h6
          by_cases h7 : vp_in a3 n
          · obtain ⟨i, hi, rfl⟩ := vp_in_of h7 (by omega)
            simp only [wp_Qm_get, wp_Md_get, wp_Md_lacks, wp_Qm_findingAt, e_isSheet, f_isSheet, e_w3, f_i2, e_within _ n (by omega), f_inS _ (show n ≤ 1000 by omega), br1, br0, h1, h2, hc, e1, e2, e3, e4, e5, h5, h7, e_item hn hi, ix240, not_true_eq_false, not_false_eq_true, true_implies, false_implies, and_true, true_and]
            rw [clN (by omega)]
            exact ⟨vp_in_nI (by omega) (by omega), e6 i hi, hI0⟩
          · simp only [wp_Qm_get, wp_Md_get, wp_Md_lacks, wp_Qm_findingAt, wp_Qm_found, wp_Md_finds, e_isSheet, f_isSheet, e_w3, f_i2, e_within _ n (by omega), f_inS _ (show n ≤ 1000 by omega), br1, br0, h1, h2, hc, e1, e2, e3, e4, e5, h5, h7, not_true_eq_false, not_false_eq_true, true_implies, false_implies, and_true, true_and]
            rw [brB (show ¬ (2 : Int32) = 0 by decide), brB (show ¬ ((-10 : Int32) - 2) = 0 by decide)]
            exact ⟨rfl, i2, i3, i4, i5, i6, i7⟩
        · simp only [wp_Qm_get, wp_Md_get, wp_Md_lacks, wp_Qm_findingAt, wp_Qm_found, wp_Md_finds, e_isSheet, f_isSheet, e_w3, f_i2, br1, br0, h1, h2, hc, e1, e2, e3, h5, h6, not_true_eq_false, not_false_eq_true, true_implies, false_implies, and_true, true_and]
          rw [brB (show ¬ (3 : Int32) = 0 by decide), brB (show ¬ ((-10 : Int32) - 3) = 0 by decide)]
          exact ⟨rfl, i2, i3, i4, i5, i6, i7⟩
    · simp only [wp_Qm_get, wp_Md_get, e_isSheet, f_isSheet, e_w3, f_i2, br1, br0, h1, h2, not_true_eq_false, not_false_eq_true, true_implies, false_implies, and_true, true_and]
      exact hI0
  · simp only [wp_Qm_get, wp_Md_get, e_isSheet, f_isSheet, br1, br0, h1, not_true_eq_false, not_false_eq_true, true_implies, false_implies, and_true, true_and]
    exact hI0
theorem st_copy {lf : Int32} {chM : IA} {chR : IA} {chN : Int32} {chK : Int32} {md : IA} {sp : IA} {dS : IA} {dL : IA} {dR : IA} {dF : IA} {dP : Int32} {lS : IA} {lL : IA} {lR : IA} {lF : IA} {lP : Int32} {sS : IA} {sL : IA} {sT : Int32} {sD : Int32} {sM : Int32} {sX : Int32} {mk : Nat → IA} {si : Nat → IA} {sl : IA} {sf : IA} {ss : IA} {forms : IA} {sizes : IA} {items : IA} {moved : IA} {latest : Int32} {rows : IA} {fresh : IA} {oldMask : IA} {oldRows : IA} {known : Int32} {drawn : Int32} {label : IA} {pile : IA} {parts : Int32} {waitX : IA} {waitY : IA} {waitSide : IA} {waits : Int32} {sign : IA} {signs : Int32} {many : IA} (hI : Inv lf chM chR chN chK md sp dS dL dR dF dP lS lL lR lF lP sS sL sT sD sM sX mk si sl sf ss forms sizes items moved latest rows fresh oldMask oldRows known drawn label pile parts waitX waitY waitSide waits sign signs many) (a1 : Int32) (a2 : Int32) (a3 : Int32) (a4 : Int32) (a5 : Int32) : wp_Qm_copy lf si sl sf ss a1 a2 a3 a4 a5 (fun r lf' si' => wp_Md_copy forms sizes items moved latest a1 a2 a3 a4 a5 (fun r2 items' moved' latest' => r = r2 ∧ Inv lf' chM chR chN chK md sp dS dL dR dF dP lS lL lR lF lP sS sL sT sD sM sX mk si' sl sf ss forms sizes items' moved' latest' rows fresh oldMask oldRows known drawn label pile parts waitX waitY waitSide waits sign signs many)) := by
  have hI0 := hI
  obtain ⟨i1, i2, i3, i4, i5, i6, i7⟩ := hI
  by_cases h1 : vp_in a1 4
  · by_cases h2 : vp_in a3 4
    · obtain ⟨s, hs, rfl⟩ := vp_in_of h1 (by omega)
      obtain ⟨t, ht, rfl⟩ := vp_in_of h2 (by omega)
      have hc : (nI s).toNatClampNeg = s := clN (by omega)
      have hc2 : (nI t).toNatClampNeg = t := clN (by omega)
      rcases i4 s hs with ⟨e1, e2⟩ | ⟨e1, f, n, hf, hn, e2, e3, e4, e5, e6⟩
      · simp only [wp_Qm_copy, wp_Md_copy, wj_Md_copy_35, wp_Qm_found, wp_Md_finds, jn, e_isSheet, f_isSheet, br1, br0, h1, h2, hc, hc2, e1, e2, brA m1lt, not_true_eq_false, not_false_eq_true, true_implies, false_implies, and_true, true_and]
        exact ⟨rfl, i2, i3, i4, i5, i6, i7⟩
      · have h5 : ¬ nI f < 0 := nI_pos (by omega)
        rcases i4 t ht with ⟨k1, k2⟩ | ⟨k1, f2, n2, hf2, hn2, k2, k3, k4, k5, k6⟩
        · simp only [wp_Qm_copy, wp_Md_copy, wj_Md_copy_35, wp_Qm_found, wp_Md_finds, jn, e_isSheet, f_isSheet, br1, br0, h1, h2, hc, hc2, e1, e3, h5, k1, k2, brB n0m1, not_true_eq_false, not_false_eq_true, true_implies, false_implies, and_true, true_and]
          exact ⟨rfl, i2, i3, i4, i5, i6, i7⟩
        · have h6 : 0 ≤ nI f2 := nI_pos' (by omega)
          have h8 : ¬ nI f2 < 0 := nI_pos (by omega)
          by_cases h7 : nI f = nI f2
          · simp only [wp_Qm_copy, wp_Qm_found, jn, e_isSheet, br1, br0, h1, h2, hc, hc2, e1, e2, e4, k1, k2, k4, h7, e_has _ _ hn, e_has _ _ hn2, not_true_eq_false, not_false_eq_true, true_implies, false_implies, and_true, true_and]
            have hM : ∀ {Q : Int32 → IA → IA → Int32 → Prop}, (¬ ((0 ≤ a2.toInt ∧ 0 ≤ a5.toInt ∧ a2.toInt + a5.toInt ≤ n) ∧ (0 ≤ a4.toInt ∧ 0 ≤ a5.toInt ∧ a4.toInt + a5.toInt ≤ n2)) → Q ((-10) - 2) items moved 2) → ((0 ≤ a2.toInt ∧ 0 ≤ a5.toInt ∧ a2.toInt + a5.toInt ≤ n) ∧ (0 ≤ a4.toInt ∧ 0 ≤ a5.toInt ∧ a4.toInt + a5.toInt ≤ n2) → ∃ k_2 : Nat, wl_Md_copy_120 items (nI s) a2 a5 (wx_Md_copy_154 items latest (nI t) a4 a5 Q) k_2 0 moved) → wp_Md_copy forms sizes items moved latest (nI s) a2 (nI t) a4 a5 Q := by
              intro Q w1 w2
              simp only [wp_Md_copy, wj_Md_copy_111, wp_Md_finds, jn, f_isSheet, br1, br0, h1, h2, hc, hc2, e3, e5, h5, k3, k5, h6, h7, h8, not_true_eq_false, not_false_eq_true, true_implies, false_implies, and_true, true_and]
              rw [i_lt, i_lt, i_lt, lc_gt, lc_le, add64, add64, t64, t64, n_t (by omega), n_t (by omega)]
              have h0 : (0 : Int32).toInt = 0 := rfl
              rw [h0]
              exact ⟨fun q => w1 (by omega), fun q1 => ⟨fun q => w1 (by omega), fun q2 => ⟨fun q => w1 (by omega), fun q3 => ⟨fun q => w1 (by omega), fun q4 => ⟨fun q => w2 (by omega), fun q => w1 (by omega)⟩⟩⟩⟩⟩
            by_cases p1 : 0 ≤ a2.toInt ∧ 0 ≤ a5.toInt ∧ a2.toInt + a5.toInt ≤ n
            · by_cases p2 : 0 ≤ a4.toInt ∧ 0 ≤ a5.toInt ∧ a4.toInt + a5.toInt ≤ n2
              · rw [brA p1, brA p2]
                obtain ⟨i, hi, rfl⟩ := nI_of (x := a2) (by rw [i_lt]; exact fun w => by have h0 : (0 : Int32).toInt = 0 := rfl; omega)
                obtain ⟨j, hj, rfl⟩ := nI_of (x := a4) (by rw [i_lt]; exact fun w => by have h0 : (0 : Int32).toInt = 0 := rfl; omega)
                obtain ⟨k, hk, rfl⟩ := nI_of (x := a5) (by rw [i_lt]; exact fun w => by have h0 : (0 : Int32).toInt = 0 := rfl; omega)
                rw [clN (by omega), clN (by omega), clN (by omega)]
                rw [n_t (by omega), n_t (by omega)] at p1
                rw [n_t (by omega), n_t (by omega)] at p2
                refine ⟨nI_pos (by omega), nI_pos (by omega), nI_pos (by omega), by omega, by omega, fun g eg => ?_⟩
                subst eg
                refine hM (fun w => ?_) (fun _ => ?_)
                · rw [n_t (by omega), n_t (by omega), n_t (by omega)] at w
                  exact absurd ⟨p1, p2⟩ w
                · refine t_copy1 hs (by omega) (fun moved' m1 => ?_)
                  unfold wx_Md_copy_154
                  refine t_copy2 ht (by omega) (fun items' m2 m3 => ⟨rfl, i1, i2, i3, ?_, i5, i6, i7⟩)
                  refine sh_put2 i4 ht (fun x hx => m3 x (by omega)) (fun n' hn' en' w x hx => ?_)
                  have : n' = n2 := by
                    rw [k4] at en'
                    exact ((nI_eq (by omega) (by omega)).mp en').symm
                  subst this
                  by_cases q : j ≤ x ∧ x < j + k
                  · rw [pk_cpy_in q.1 q.2, e6 _ (by omega)]
                    have q1 := m2 (x - j) (by omega)
                    rw [m1 (x - j) (by omega), show 60 * t + j + (x - j) = 60 * t + x by omega] at q1
                    rw [q1, show 60 * s + i + (x - j) = 60 * s + (i + (x - j)) by omega]
                  · rw [pk_cpy_out (by omega), m3 _ (by omega), w x hx]
              · rw [brA p1, brB p2]
                exact hM (fun _ => ⟨rfl, rfl, i2, i3, i4, i5, i6, i7⟩) (fun w => absurd w.2 p2)
            · rw [brB p1]
              exact hM (fun _ => ⟨rfl, rfl, i2, i3, i4, i5, i6, i7⟩) (fun w => absurd w.1 p1)
          · simp only [wp_Qm_copy, wp_Md_copy, wp_Qm_found, wp_Md_finds, jn, e_isSheet, f_isSheet, br1, br0, h1, h2, hc, hc2, e1, e2, e3, h5, h6, k1, k2, k3, h7, not_true_eq_false, not_false_eq_true, true_implies, false_implies, and_true, true_and]
            exact ⟨rfl, i2, i3, i4, i5, i6, i7⟩
    · simp only [wp_Qm_copy, wp_Md_copy, e_isSheet, f_isSheet, br1, br0, h1, h2, not_true_eq_false, not_false_eq_true, true_implies, false_implies, and_true, true_and]
      exact hI0
  · simp only [wp_Qm_copy, wp_Md_copy, e_isSheet, f_isSheet, br1, br0, h1, not_true_eq_false, not_false_eq_true, true_implies, false_implies, and_true, true_and]
    exact hI0
