/-! The law's loop. Printed by wip/whole/gen/mkstart.py. -/
theorem law_end {p : Program} {l : Launch} {e : Env} {s : State} {m : MethodId} {below : List Frame} {meth : Method} {c : Code} {G : GG} {b : Nat} (hr : meth.sig.returnType = ret) (hlocks : meth.locks = false) (C : qm_C0 p s m #[Value.ref b] c G (fun q : Nat => s.heap.size ≤ q) cL_law 4 wsL_law RL) {ws : va_W} {lv : List (Nat × Value)} : qm_N0 p l e room_1 s m #[Value.ref b] below meth c G (fun q : Nat => s.heap.size ≤ q) 4 (lw_Z below #[Value.ref b] s) 58 6021 ws lv 1276 [] := by
  refine n_iconst C 1 dL_law_1276 (by decide) ?_
  intro H locs ls _ _ hS _
  refine va_forget (fun q hq => hS.2.2 q hq) ?_
  refine W.widen (k := 600000) (n := 7302249) (by omega) (by omega) ?_
  exact lw_ret C.1.1 C.1.2.1 hr hlocks dL_law_1277
set_option maxHeartbeats 4000000 in
theorem law_loop {p : Program} {l : Launch} {e : Env} {s : State} {m : MethodId} {below : List Frame} {meth : Method} {c : Code} {G : GG} {b L : Nat} {xs : Nat → Int32} (hL : L ≤ 3584) (hr : meth.sig.returnType = ret) (hlocks : meth.locks = false) (C : qm_C0 p s m #[Value.ref b] c G (fun q : Nat => s.heap.size ≤ q) cL_law 4 wsL_law RL) (hX : va_X b L xs s s.heap) (hbl : b < s.heap.size) {ad ad2 : Nat → Nat} : ∀ (n i : Nat), i ≤ L → L + 1 ≤ i + n → ∀ (lf : Int32) (chM : IA) (chR : IA) (chN : Int32) (chK : Int32) (md : IA) (sp : IA) (dS : IA) (dL : IA) (dR : IA) (dF : IA) (dP : Int32) (lS : IA) (lL : IA) (lR : IA) (lF : IA) (lP : Int32) (sS : IA) (sL : IA) (sT : Int32) (sD : Int32) (sM : Int32) (sX : Int32) (mk : Nat → IA) (si : Nat → IA) (sl : IA) (sf : IA) (ss : IA) (forms : IA) (sizes : IA) (items : IA) (moved : IA) (latest : Int32) (rows : IA) (fresh : IA) (oldMask : IA) (oldRows : IA) (known : Int32) (drawn : Int32) (label : IA) (pile : IA) (parts : Int32) (waitX : IA) (waitY : IA) (waitSide : IA) (waits : Int32) (sign : IA) (signs : Int32) (many : IA), Inv lf chM chR chN chK md sp dS dL dR dF dP lS lL lR lF lP sS sL sT sD sM sX mk si sl sf ss forms sizes items moved latest rows fresh oldMask oldRows known drawn label pile parts waitX waitY waitSide waits sign signs many → qm_N0 p l e room_1 s m #[Value.ref b] below meth c G (fun q : Nat => s.heap.size ≤ q) 4 (lw_Z below #[Value.ref b] s) 58 6021 (cw G ad lf chM chR chN chK md sp dS dL dR dF dP lS lL lR lF lP sS sL sT sD sM sX mk si sl sf ss ++ mw G ad2 forms sizes items moved latest rows fresh oldMask oldRows known drawn label pile parts waitX waitY waitSide waits sign signs many) [(3, .int (nI i)), (2, .ref (ad2 0)), (1, .ref (ad 0)), (0, .ref b)] 18 [] := by
  have hbA : ¬ (fun q : Nat => s.heap.size ≤ q) b := Nat.not_le.mpr hbl
  intro n
  induction n with
  | zero =>
    intro i h1 h2
    exact absurd h2 (by omega)
  | succ n ih =>
    intro i hi hin lf chM chR chN chK md sp dS dL dR dF dP lS lL lR lF lP sS sL sT sD sM sX mk si sl sf ss forms sizes items moved latest rows fresh oldMask oldRows known drawn label pile parts waitX waitY waitSide waits sign signs many hI
    have hN : i + 7 ≤ L → ∀ (lf : Int32) (chM : IA) (chR : IA) (chN : Int32) (chK : Int32) (md : IA) (sp : IA) (dS : IA) (dL : IA) (dR : IA) (dF : IA) (dP : Int32) (lS : IA) (lL : IA) (lR : IA) (lF : IA) (lP : Int32) (sS : IA) (sL : IA) (sT : Int32) (sD : Int32) (sM : Int32) (sX : Int32) (mk : Nat → IA) (si : Nat → IA) (sl : IA) (sf : IA) (ss : IA) (forms : IA) (sizes : IA) (items : IA) (moved : IA) (latest : Int32) (rows : IA) (fresh : IA) (oldMask : IA) (oldRows : IA) (known : Int32) (drawn : Int32) (label : IA) (pile : IA) (parts : Int32) (waitX : IA) (waitY : IA) (waitSide : IA) (waits : Int32) (sign : IA) (signs : Int32) (many : IA), Inv lf chM chR chN chK md sp dS dL dR dF dP lS lL lR lF lP sS sL sT sD sM sX mk si sl sf ss forms sizes items moved latest rows fresh oldMask oldRows known drawn label pile parts waitX waitY waitSide waits sign signs many → qm_N0 p l e room_1 s m #[Value.ref b] below meth c G (fun q : Nat => s.heap.size ≤ q) 4 (lw_Z below #[Value.ref b] s) 58 6021 (cw G ad lf chM chR chN chK md sp dS dL dR dF dP lS lL lR lF lP sS sL sT sD sM sX mk si sl sf ss ++ mw G ad2 forms sizes items moved latest rows fresh oldMask oldRows known drawn label pile parts waitX waitY waitSide waits sign signs many) [(3, .int (nI i)), (2, .ref (ad2 0)), (1, .ref (ad 0)), (0, .ref b)] 1270 [] := by
      intro hi7 lf chM chR chN chK md sp dS dL dR dF dP lS lL lR lF lP sS sL sT sD sM sX mk si sl sf ss forms sizes items moved latest rows fresh oldMask oldRows known drawn label pile parts waitX waitY waitSide waits sign signs many hI2
      refine n_iinc C (nI (i + 7)) 0 [(3, .int (nI (i + 7))), (2, .ref (ad2 0)), (1, .ref (ad 0)), (0, .ref b)] dL_law_1270 rfl (nI_add i 7) (by decide) rfl ?_
      refine n_goto C 18 dL_law_1273 (by decide) ?_
      exact ih (i + 7) hi7 (by omega) lf chM chR chN chK md sp dS dL dR dF dP lS lL lR lF lP sS sL sT sD sM sX mk si sl sf ss forms sizes items moved latest rows fresh oldMask oldRows known drawn label pile parts waitX waitY waitSide waits sign signs many hI2
    refine n_iload_n C dL_law_18 rfl 0 rfl ?_
    refine n_aload_n C dL_law_19 rfl 3 rfl ?_
    refine n_slen C hX hbl hbA dL_law_20 ?_
    refine n_bipush C 7 dL_law_21 (by decide) ?_
    refine n_isub C dL_law_23 ?_
    have hsub : (nI L - 7).toInt = (L : Int) - 7 := pk_sub_toInt (a := L) (b := 7) (by omega) (by omega)
    refine n_icmp_gt C 1276 dL_law_24 (by decide) (fun _ => law_end hr hlocks C) (fun hc => ?_)
    have hi7 : i + 7 ≤ L := by
      rw [i_lt, hsub, n_t (by omega)] at hc
      omega
    refine n_aload_n C dL_law_27 rfl 3 rfl ?_
    refine n_iload_n C dL_law_28 rfl 0 rfl ?_
    refine n_sld C hX hbl hbA (vp_in_nI (n := i) (by omega) (by omega)) dL_law_29 ?_
    rw [clN (by omega)]
    refine n_bipush C 31 dL_law_30 (by decide) ?_
    refine n_iand C dL_law_32 ?_
    obtain ⟨j, hj, ej⟩ := pk_andE (xs i) (m := 31) 5 (by decide)
    have hj2 : j < 32 := hj
    have hcase : j = 0 ∨ j = 1 ∨ j = 2 ∨ j = 3 ∨ j = 4 ∨ j = 5 ∨ j = 6 ∨ j = 7 ∨ j = 8 ∨ j = 9 ∨ j = 10 ∨ j = 11 ∨ j = 12 ∨ j = 13 ∨ j = 14 ∨ j = 15 ∨ j = 16 ∨ j = 17 ∨ j = 18 ∨ j = 19 ∨ j = 20 ∨ j = 21 ∨ j = 22 ∨ j = 23 ∨ j = 24 ∨ j = 25 ∨ j = 26 ∨ 27 ≤ j := by omega
    rcases hcase with h | h | h | h | h | h | h | h | h | h | h | h | h | h | h | h | h | h | h | h | h | h | h | h | h | h | h | hbig
    · subst h
      exact n_tin C (nI 0) 156 ej dL_law_33 (by decide) rfl (by decide) (law_fill C hX hbl hbA hi7 hL hI (hN hi7))
    · subst h
      exact n_tin C (nI 1) 231 ej dL_law_33 (by decide) rfl (by decide) (law_dots C hX hbl hbA hi7 hL hI (hN hi7))
    · subst h
      exact n_tin C (nI 2) 274 ej dL_law_33 (by decide) rfl (by decide) (law_join C hX hbl hbA hi7 hL hI (hN hi7))
    · subst h
      exact n_tin C (nI 3) 327 ej dL_law_33 (by decide) rfl (by decide) (law_over C hX hbl hbA hi7 hL hI (hN hi7))
    · subst h
      exact n_tin C (nI 4) 360 ej dL_law_33 (by decide) rfl (by decide) (law_move C hX hbl hbA hi7 hL hI (hN hi7))
    · subst h
      exact n_tin C (nI 5) 413 ej dL_law_33 (by decide) rfl (by decide) (law_turn C hX hbl hbA hi7 hL hI (hN hi7))
    · subst h
      exact n_tin C (nI 6) 456 ej dL_law_33 (by decide) rfl (by decide) (law_band C hX hbl hbA hi7 hL hI (hN hi7))
    · subst h
      exact n_tin C (nI 7) 499 ej dL_law_33 (by decide) rfl (by decide) (law_pick C hX hbl hbA hi7 hL hI (hN hi7))
    · subst h
      exact n_tin C (nI 8) 552 ej dL_law_33 (by decide) rfl (by decide) (law_read C hX hbl hbA hi7 hL hI (hN hi7))
    · subst h
      exact n_tin C (nI 9) 585 ej dL_law_33 (by decide) rfl (by decide) (law_back C hX hbl hbA hi7 hL hI (hN hi7))
    · subst h
      exact n_tin C (nI 10) 598 ej dL_law_33 (by decide) rfl (by decide) (law_cell C hX hbl hbA hi7 hL hI (hN hi7))
    · subst h
      exact n_tin C (nI 11) 641 ej dL_law_33 (by decide) rfl (by decide) (law_block C hX hbl hbA hi7 hL hI (hN hi7))
    · subst h
      exact n_tin C (nI 12) 694 ej dL_law_33 (by decide) rfl (by decide) (law_blocks C hX hbl hbA hi7 hL hI (hN hi7))
    · subst h
      exact n_tin C (nI 13) 727 ej dL_law_33 (by decide) rfl (by decide) (law_shown C hX hbl hbA hi7 hL hI (hN hi7))
    · subst h
      exact n_tin C (nI 14) 760 ej dL_law_33 (by decide) rfl (by decide) (law_all C hX hbl hbA hi7 hL hI (hN hi7))
    · subst h
      exact n_tin C (nI 15) 793 ej dL_law_33 (by decide) rfl (by decide) (law_label C hX hbl hbA hi7 hL hI (hN hi7))
    · subst h
      exact n_tin C (nI 16) 836 ej dL_law_33 (by decide) rfl (by decide) (law_part C hX hbl hbA hi7 hL hI (hN hi7))
    · subst h
      exact n_tin C (nI 17) 879 ej dL_law_33 (by decide) rfl (by decide) (law_near C hX hbl hbA hi7 hL hI (hN hi7))
    · subst h
      exact n_tin C (nI 18) 922 ej dL_law_33 (by decide) rfl (by decide) (law_both C hX hbl hbA hi7 hL hI (hN hi7))
    · subst h
      exact n_tin C (nI 19) 965 ej dL_law_33 (by decide) rfl (by decide) (law_sheet C hX hbl hbA hi7 hL hI (hN hi7))
    · subst h
      exact n_tin C (nI 20) 1008 ej dL_law_33 (by decide) rfl (by decide) (law_lose C hX hbl hbA hi7 hL hI (hN hi7))
    · subst h
      exact n_tin C (nI 21) 1031 ej dL_law_33 (by decide) rfl (by decide) (law_lay C hX hbl hbA hi7 hL hI (hN hi7))
    · subst h
      exact n_tin C (nI 22) 1084 ej dL_law_33 (by decide) rfl (by decide) (law_get C hX hbl hbA hi7 hL hI (hN hi7))
    · subst h
      exact n_tin C (nI 23) 1127 ej dL_law_33 (by decide) rfl (by decide) (law_copy C hX hbl hbA hi7 hL hI (hN hi7))
    · subst h
      exact n_tin C (nI 24) 1190 ej dL_law_33 (by decide) rfl (by decide) (law_write C hX hbl hbA hi7 hL hI (hN hi7))
    · subst h
      exact n_tin C (nI 25) 1233 ej dL_law_33 (by decide) rfl (by decide) (law_count C hX hbl hbA hi7 hL hI (hN hi7))
    · subst h
      exact n_tin C (nI 26) 1256 ej dL_law_33 (by decide) rfl (by decide) (law_digest C hX hbl hbA hi7 hL hI (hN hi7))
    · refine n_tout C 1270 dL_law_33 (Or.inr ?_) (by decide) (hN hi7 lf chM chR chN chK md sp dS dL dR dF dP lS lL lR lF lP sS sL sT sD sM sX mk si sl sf ss forms sizes items moved latest rows fresh oldMask oldRows known drawn label pile parts waitX waitY waitSide waits sign signs many hI)
      rw [ej, n_t (by omega)]
      omega
