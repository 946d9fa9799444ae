/-! The steps. -/
theorem st_read {lf : Int32} {chM : IA} {chR : IA} {chN : Int32} {chK : Int32} {md : IA} {sp : IA} {dS : IA} {dL : IA} {dR : IA} {dF : IA} {dP : Int32} {lS : IA} {lL : IA} {lR : IA} {lF : IA} {lP : Int32} {sS : IA} {sL : IA} {sT : Int32} {sD : Int32} {sM : Int32} {sX : Int32} {mk : Nat → IA} {si : Nat → IA} {sl : IA} {sf : IA} {ss : IA} {forms : IA} {sizes : IA} {items : IA} {moved : IA} {latest : Int32} {rows : IA} {fresh : IA} {oldMask : IA} {oldRows : IA} {known : Int32} {drawn : Int32} {label : IA} {pile : IA} {parts : Int32} {waitX : IA} {waitY : IA} {waitSide : IA} {waits : Int32} {sign : IA} {signs : Int32} {many : IA} (hI : Inv lf chM chR chN chK md sp dS dL dR dF dP lS lL lR lF lP sS sL sT sD sM sX mk si sl sf ss forms sizes items moved latest rows fresh oldMask oldRows known drawn label pile parts waitX waitY waitSide waits sign signs many) (a1 : Int32) (a2 : Int32) : wp_Qm_read lf chM chR chN chK md mk si sl sf ss a1 a2 (fun r lf' chM' chR' chN' chK' md' mk' => wp_Md_read forms sizes items latest rows fresh oldMask oldRows known waitX waitY waitSide waits a1 a2 (fun r2 latest' rows' fresh' oldMask' oldRows' known' waitX' waitY' waitSide' waits' => r = r2 ∧ Inv lf' chM' chR' chN' chK' md' sp dS dL dR dF dP lS lL lR lF lP sS sL sT sD sM sX mk' si sl sf ss forms sizes items moved latest' rows' fresh' oldMask' oldRows' known' drawn label pile parts waitX' waitY' waitSide' waits' sign signs many)) := by
  have hI0 := hI
  obtain ⟨i1, i2, i3, i4, i5, i6, i7⟩ := hI
  by_cases h1 : vp_in a1 4
  · by_cases h2 : vp_in a2 4
    · obtain ⟨m, hm, rfl⟩ := vp_in_of h1 (by omega)
      obtain ⟨s, hs, rfl⟩ := vp_in_of h2 (by omega)
      have hcs : (nI s).toNatClampNeg = s := clN (by omega)
      rcases i4 s hs with ⟨e1, e2⟩ | ⟨e1, f, n, hf, hn, e2, e3, e4, e5, e6⟩
      · simp only [wp_Qm_read, wp_Md_read, wp_Qm_found, wp_Md_finds, e_isMask, f_isMask, e_isSheet, f_isSheet, br1, br0, h1, h2, hcs, e1, e2, brB n0m1, not_true_eq_false, not_false_eq_true, true_implies, false_implies, and_true, true_and]
        exact ⟨rfl, i2, i3, i4, i5, i6, i7⟩
      · have h5 : 0 ≤ nI f := nI_pos' (by omega)
        have st0 : stk (upd waitX 0 0) (upd waitY 0 0) (upd waitSide 0 16) 1 [(4, 0, 0)] := ⟨0, rfl, by decide, by decide, by decide, pk_us, pk_us, pk_us, rfl⟩
        have eL : ∀ S, rdl (fun j => items (60 * s + j)) n [(4, 0, 0)] 0 S = rd (si s) n 4 0 0 0 S := by
          intro S
          rw [rd_congr (fun j hj => e6 j hj) 4 0 0 0 S]
          show (rd (fun j => items (60 * s + j)) n 4 0 0 0 S).bind (fun z => some (z.1, z.2)) = _
          cases rd (fun j => items (60 * s + j)) n 4 0 0 0 S <;> rfl
        have hW : rowsW md (fun X Y => bt (md Y) X) := fun _ _ _ _ => rfl
        unfold wp_Qm_read
        rw [e_isMask, brA h1, br1, e_isSheet, brA h2, br1, hcs, e1, br0, e4]
        refine ⟨h2, h2, s_read (si s) hn 0 _ 4 (by omega) 0 0 0 _ md _ (by decide) (by decide) (by omega) hW (fun f' hnone => ?_) (fun k' S' f' hsome h3 => ?_)⟩
        · rw [brA rfl]
          dsimp only [wp_Md_read]
          rw [f_isMask, brA h1, br1, f_isSheet, brA h2, br1, hcs, e3, brA h5]
          refine ⟨h2, ?_⟩
          unfold wp_Md_takes
          refine t_clears (fun f0 hf0 => t_later (w := 0) (by omega) ⟨60 + 1, ?_⟩)
          refine t_takesL hs e5 hn 60 _ 1 0 _ f0 _ _ _ st0 (by omega) (by omega) (rows0 hf0) (fun f2 aX aY aS ww _ => ?_) (fun k2 S2 f2 aX aY aS ww w _ => ?_)
          · rw [brA rfl]
            exact ⟨rfl, i1, i2, i3, i4, i5, i6, i7⟩
          · exfalso
            rw [eL] at w
            obtain ⟨T, w2, _⟩ := rd_indep _ _ _ _ _ _ _ (fun X Y => bt (md Y) X) w
            rw [w2] at hnone
            cases hnone
        · have hk' := rd_le _ _ _ _ _ _ _ hsome
          rw [brB (ne_m1 (by omega))]
          have hg : g16 f' := fun Y hY => h3.2.1 Y (by omega) (by rw [show 0 + 2 ^ 4 = 16 from rfl]; exact hY)
          refine bec3 hm i3 i2 hg (fun r p1 p2 p3 p4 p5 hbb => ?_)
          dsimp only [wp_Md_read]
          rw [f_isMask, brA h1, br1, f_isSheet, brA h2, br1, hcs, e3, brA h5]
          refine ⟨h2, ?_⟩
          unfold wp_Md_takes
          refine t_clears (fun f0 hf0 => t_later (w := 0) (by omega) ⟨60 + 1, ?_⟩)
          refine t_takesL hs e5 hn 60 _ 1 0 _ f0 _ _ _ st0 (by omega) (by omega) (rows0 hf0) (fun f2 aX aY aS ww w => ?_) (fun k2 S2 f2 aX aY aS ww w hf2 => ?_)
          · exfalso
            rw [eL] at w
            obtain ⟨T, w2, _⟩ := rd_indep _ _ _ _ _ _ _ (fun _ _ => false) hsome
            rw [w2] at w
            cases w
          · rw [eL] at w
            obtain ⟨T, w2, w3⟩ := rd_indep _ _ _ _ _ _ _ (fun _ _ => false) hsome
            rw [w2] at w
            cases w
            rw [brB (ne_m1 (by omega))]
            refine hbb f2 _ (fun y hy => r_ext (hg y hy) (hf2.1 y hy) (fun x hx => ?_)) (fun q1 q2 q3 q4 u1 u2 => ⟨rfl, i1, u2, u1, i4, i5, i6, i7⟩)
            rw [h3.1 y hy x hx, hf2.2 y hy x hx]
            exact w3 x y (Or.inl ⟨by omega, by rw [show 0 + 2 ^ 4 = 16 from rfl]; exact hx, by omega, by rw [show 0 + 2 ^ 4 = 16 from rfl]; exact hy⟩)
    · simp only [wp_Qm_read, wp_Md_read, e_isMask, f_isMask, e_isSheet, f_isSheet, br1, br0, h1, h2, not_true_eq_false, not_false_eq_true, true_implies, false_implies, and_true, true_and]
      exact hI0
  · simp only [wp_Qm_read, wp_Md_read, e_isMask, f_isMask, br1, br0, h1, not_true_eq_false, not_false_eq_true, true_implies, false_implies, and_true, true_and]
    exact hI0
