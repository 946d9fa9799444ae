/-! The start. Printed by wip/whole/gen/mkstart.py. -/
theorem dk_0 : dk (fun _ => 0) = fun _ _ => false := by
  funext x y
  unfold dk
  rw [b_0, Bool.and_false, Bool.and_false]
theorem g16_0 : g16 (fun _ => 0) := fun _ _ => r16_0
theorem parts_0 {L F : IA} (h : ∀ j, j < 256 → L j = (-1)) : PartsOK (fun _ => 0) L F 0 := by
  refine ⟨g16_0, 0, by omega, rfl, ⟨fun c hc _ => h c hc, fun c hc hp => ?_, fun c c' hc _ hp => ?_, fun c k _ hk => by omega, fun k hk => by omega⟩, fun k hk => by omega⟩
  · rw [dk_0, dc_in hc] at hp
    cases hp
  · rw [dk_0, dc_in hc] at hp
    cases hp
theorem signs_0 : SignsOK (fun _ => 0) (fun _ => 0) 1 0 0 0 := by
  have hu : uni (dk (fun _ => 0)) (2 ^ 4) 0 0 = true := by
    rw [uni_def, dk_0]
    intro i _ j _
    rfl
  obtain ⟨e1, e2⟩ := sq_any hu
  have e3 : sq (dk (fun _ => 0)) 4 0 0 = [0] := by
    rw [e1, dk_0]; rfl
  refine ⟨g16_0, ?_, ?_, ?_, ?_, ?_⟩
  · rw [e3]; rfl
  · rw [e3]
    intro i hi
    have h1 : i < 1 := hi
    have h0 : i = 0 := by omega
    subst h0
    rfl
  · rw [e3]; rfl
  · rw [e3]; rfl
  · rw [e2]; rfl
theorem inv_0 {dL lL forms : IA} (h1 : ∀ j, j < 256 → dL j = (-1)) (h2 : ∀ j, j < 256 → lL j = (-1)) (h3 : ∀ j, j < 4 → forms j = (-1)) : Inv 0 (fun _ => 0) (fun _ => 0) 0 0 (fun _ => 0) (fun _ => 0) (fun _ => 0) dL (fun _ => 0) (fun _ => 0) 0 (fun _ => 0) lL (fun _ => 0) (fun _ => 0) 0 (fun _ => 0) (fun _ => 0) 1 0 0 0 (fun _ _ => 0) (fun _ _ => 0) (fun _ => 1) (fun _ => 0) (fun _ => 0) forms (fun _ => 0) (fun _ => 0) (fun _ => 0) 0 (fun _ => 0) (fun _ => 0) (fun _ => 0) (fun _ => 0) 0 0 (fun _ => 0) (fun _ => 0) 0 (fun _ => 0) (fun _ => 0) (fun _ => 0) 0 (fun _ => 0) 0 (fun _ => 0) := by
  refine ⟨rfl, ⟨0, 0, by omega, by omega, rfl, rfl, rfl, fun j hj => by omega⟩, fun m hm => ⟨g16_0, fun y _ => rfl⟩, fun t ht => Or.inl ⟨rfl, h3 t ht⟩, parts_0 h1, parts_0 h2, signs_0⟩
theorem w_cl5 : Cond.classLink RL 7 RX5 ∈ wsL_law := List.mem_of_getElem? (i := 0) (by decide +kernel)
theorem w_in5 : Cond.instantiable RX5 9 ∈ wsL_law := List.mem_of_getElem? (i := 1) (by decide +kernel)
theorem w_ini5 : Cond.initialized RX5 ∈ wsL_law := List.mem_of_getElem? (i := 2) (by decide +kernel)
theorem w_cl6 : Cond.classLink RL 10 RX6 ∈ wsL_law := List.mem_of_getElem? (i := 3) (by decide +kernel)
theorem w_in6 : Cond.instantiable RX6 21 ∈ wsL_law := List.mem_of_getElem? (i := 4) (by decide +kernel)
theorem w_ini6 : Cond.initialized RX6 ∈ wsL_law := List.mem_of_getElem? (i := 5) (by decide +kernel)
theorem w_ml5 : Cond.methodLink RL 9 yX5_init ∈ wsL_law := List.mem_of_getElem? (i := 6) (by decide +kernel)
theorem w_im5 : Cond.instanceMethod yX5_init ∈ wsL_law := List.mem_of_getElem? (i := 7) (by decide +kernel)
theorem w_ml6 : Cond.methodLink RL 12 yX6_init ∈ wsL_law := List.mem_of_getElem? (i := 79) (by decide +kernel)
theorem w_im6 : Cond.instanceMethod yX6_init ∈ wsL_law := List.mem_of_getElem? (i := 80) (by decide +kernel)
theorem iL_law_5 : ∀ w ∈ u_ws RX5 TX5 9, w ∈ wsL_law := fun w hw => List.mem_append_left _ (List.mem_append_left _ (List.mem_append_left _ (List.mem_append_left _ (List.mem_append_left _ (List.mem_append_left _ (List.mem_append_left _ (List.mem_append_right _ hw)))))))
theorem iL_law_6 : ∀ w ∈ u_ws RX6 TX6 21, w ∈ wsL_law := fun w hw => List.mem_append_left _ (List.mem_append_left _ (List.mem_append_left _ (List.mem_append_left _ (List.mem_append_left _ (List.mem_append_left _ (List.mem_append_right _ hw))))))
theorem start_NW {s : State} {a : Array Value} (hts : ∀ w ∈ lw_tbl, w.before a s = true) : NW s :=
  ⟨va_Nw.of rfl (hts (Cond.methodLinkNest RX1 15 yX5_within RX5) (List.mem_of_getElem? (i := 241) (by decide +kernel))),
   va_Nw.of rfl (hts (Cond.methodLinkNest RX3 32 yX5_within RX5) (List.mem_of_getElem? (i := 386) (by decide +kernel))),
   va_Nw.of rfl (hts (Cond.methodLinkNest RX4 61 yX5_within RX5) (List.mem_of_getElem? (i := 431) (by decide +kernel))),
   va_Nw.of rfl (hts (Cond.methodLinkNest RX2 77 yX5_within RX5) (List.mem_of_getElem? (i := 458) (by decide +kernel))),
   va_Nw.of rfl (hts (Cond.fieldLinkNest RX5 138 "QuarterMasks$Changes" "known" "I" RX5) (List.mem_of_getElem? (i := 83) (by decide +kernel))),
   va_Nw.of rfl (hts (Cond.fieldLinkNest RX5 175 "QuarterMasks$Parts" "parts" "I" RX5) (List.mem_of_getElem? (i := 119) (by decide +kernel))),
   va_Nw.of rfl (hts (Cond.fieldLinkNest RX5 160 "QuarterMasks$Signs" "told" "I" RX5) (List.mem_of_getElem? (i := 142) (by decide +kernel))),
   va_Nw.of rfl (hts (Cond.fieldLinkNest RX5 166 "QuarterMasks$Signs" "darkBlocks" "I" RX5) (List.mem_of_getElem? (i := 144) (by decide +kernel))),
   va_Nw.of rfl (hts (Cond.fieldLinkNest RX5 163 "QuarterMasks$Signs" "mixed" "I" RX5) (List.mem_of_getElem? (i := 146) (by decide +kernel))),
   va_Nw.of rfl (hts (Cond.fieldLinkNest RX5 169 "QuarterMasks$Signs" "deepest" "I" RX5) (List.mem_of_getElem? (i := 148) (by decide +kernel))),
   va_Nw.of rfl (hts (Cond.fieldLinkNest RX5 217 "QuarterMasks$Sheet" "items" "[I" RX5) (List.mem_of_getElem? (i := 168) (by decide +kernel))),
   va_Nw.of rfl (hts (Cond.fieldLinkNest RX5 121 "QuarterMasks$Sheet" "lost" "Z" RX5) (List.mem_of_getElem? (i := 170) (by decide +kernel))),
   va_Nw.of rfl (hts (Cond.fieldLinkNest RX5 211 "QuarterMasks$Sheet" "form" "I" RX5) (List.mem_of_getElem? (i := 172) (by decide +kernel))),
   va_Nw.of rfl (hts (Cond.fieldLinkNest RX5 132 "QuarterMasks$Sheet" "size" "I" RX5) (List.mem_of_getElem? (i := 174) (by decide +kernel))),
   va_Nw.of rfl (hts (Cond.methodLinkNest RX5 23 yX0_init RX5) (List.mem_of_getElem? (i := 75) (by decide +kernel))),
   va_Nw.of rfl (hts (Cond.methodLinkNest RX5 28 yX1_init RX5) (List.mem_of_getElem? (i := 95) (by decide +kernel))),
   va_Nw.of rfl (hts (Cond.methodLinkNest RX2 11 yX1_init RX5) (List.mem_of_getElem? (i := 110) (by decide +kernel))),
   va_Nw.of rfl (hts (Cond.methodLinkNest RX5 48 yX4_init RX5) (List.mem_of_getElem? (i := 133) (by decide +kernel))),
   va_Nw.of rfl (hts (Cond.methodLinkNest RX4 11 yX1_init RX5) (List.mem_of_getElem? (i := 138) (by decide +kernel))),
   va_Nw.of rfl (hts (Cond.methodLinkNest RX5 57 yX3_init RX5) (List.mem_of_getElem? (i := 163) (by decide +kernel))),
   va_AO.of (hts (Cond.arrayOver (.object RX1)) (List.mem_of_getElem? (i := 70) (by decide +kernel))),
   va_AO.of (hts (Cond.arrayOver (.object RX3)) (List.mem_of_getElem? (i := 72) (by decide +kernel)))⟩
theorem start_G {s : State} {a : Array Value} (hts : ∀ w ∈ lw_tbl, w.before a s = true) : ∃ G : GG, va_K G.1 kl (kty G) s := by
  obtain ⟨c0, i0, k0⟩ := u_known (C := RX0) (T := TX0) (N := 4) (n := 4) hts li_wsX00 (hts (Cond.instantiable RX0 4) (List.mem_of_getElem? (i := 74) (by decide +kernel)))
  obtain ⟨c1, i1, k1⟩ := u_known (C := RX1) (T := TX1) (N := 1) (n := 1) hts li_wsX10 (hts (Cond.instantiable RX1 1) (List.mem_of_getElem? (i := 94) (by decide +kernel)))
  obtain ⟨c2, i2, k2⟩ := u_known (C := RX2) (T := TX2) (N := 5) (n := 5) hts li_wsX20 (hts (Cond.instantiable RX2 5) (List.mem_of_getElem? (i := 104) (by decide +kernel)))
  obtain ⟨c3, i3, k3⟩ := u_known (C := RX3) (T := TX3) (N := 4) (n := 4) hts li_wsX30 (hts (Cond.instantiable RX3 4) (List.mem_of_getElem? (i := 162) (by decide +kernel)))
  obtain ⟨c4, i4, k4⟩ := u_known (C := RX4) (T := TX4) (N := 6) (n := 6) hts li_wsX40 (hts (Cond.instantiable RX4 6) (List.mem_of_getElem? (i := 132) (by decide +kernel)))
  obtain ⟨c5, i5, k5⟩ := u_known (C := RX5) (T := TX5) (N := 9) (n := 9) hts li_wsX50 (hts (Cond.instantiable RX5 9) (List.mem_of_getElem? (i := 62) (by decide +kernel)))
  obtain ⟨c6, i6, k6⟩ := u_known (C := RX6) (T := TX6) (N := 21) (n := 21) hts li_wsX60 (hts (Cond.instantiable RX6 21) (List.mem_of_getElem? (i := 595) (by decide +kernel)))
  obtain ⟨cA, kA, comp, f1, f2, f3⟩ := Cond.arrayClass_spec (hts (Cond.arrayClass .int) (List.mem_of_getElem? (i := 93) (by decide +kernel)))
  obtain ⟨compG, cG, kG, g1, g2, g3, g4, g5⟩ := Cond.arrayOver_spec (hts (Cond.arrayOver (.object RX1)) (List.mem_of_getElem? (i := 70) (by decide +kernel)))
  obtain ⟨compS, cS, kS, h1, h2, h3, h4, h5⟩ := Cond.arrayOver_spec (hts (Cond.arrayOver (.object RX3)) (List.mem_of_getElem? (i := 72) (by decide +kernel)))
  refine ⟨((fun k => match k with | 0 => c0 | 1 => c1 | 2 => c2 | 3 => c3 | 4 => c4 | 5 => c5 | _ => c6, fun k => match k with | 0 => i0 | 1 => i1 | 2 => i2 | 3 => i3 | 4 => i4 | 5 => i5 | _ => i6), cA, cG, cS), fun k q hq => ?_, fun k q hq => ?_⟩
  · match k, hq with
    | 0, hq => cases hq; exact k0
    | 1, hq => cases hq; exact k1
    | 2, hq => cases hq; exact k2
    | 3, hq => cases hq; exact k3
    | 4, hq => cases hq; exact k4
    | 5, hq => cases hq; exact k5
    | 6, hq => cases hq; exact k6
    | k + 7, hq => simp [kl] at hq
  · match k, hq with
    | 0, hq => cases hq; exact ⟨fun n z => ⟨fun k h => (by cases h), kA, f2, comp, f3⟩, f1⟩
    | 1, hq => cases hq; exact ⟨fun n z => ⟨fun k h => (by cases h), kG, g3, compG, g4⟩, kG, compG, g3, g4, g1, g5⟩
    | 2, hq => cases hq; exact ⟨fun n z => ⟨fun k h => (by cases h), kS, h3, compS, h4⟩, kS, compS, h3, h4, h1, h5⟩
    | k + 3, hq => simp [kty] at hq
set_option maxHeartbeats 4000000 in
set_option maxRecDepth 100000 in
theorem whole_start {p : Program} {e : Env} {s : State} {m : MethodId} {below : List Frame} {meth : Method} {c : Code} (l : Launch) (hflags : l.flags = flags0) {b L : Nat} {xs : Nat → Int32} (hL : L ≤ 3584) (C0 : lw_At p s m meth c b L xs) : W p l e room_1 s m #[Value.ref b] below meth c s.heap [] 0 0 (lw_Z below #[Value.ref b] s) (entryFrame m ([Value.ref b] : List Value).toArray 4) := by
  obtain ⟨hx, hb, hr, hml, hown, hts, hX, hbl, hlocks, hgv⟩ := C0
  obtain ⟨G, hK⟩ := start_G hts
  have C : qm_C0 p s m #[Value.ref b] c G (fun q : Nat => s.heap.size ≤ q) cL_law 4 wsL_law RL := ⟨⟨hx, hb, hml, hown, fun w hw => hts w (wsL_law_in w hw)⟩, hK, fun _ h => h, start_NW hts⟩
  have K : qm_N0 p l e room_1 s m #[Value.ref b] below meth c G (fun q : Nat => s.heap.size ≤ q) 4 (lw_Z below #[Value.ref b] s) 0 0 [] [(0, .ref b)] 0 [] := by
    refine n_new (ci := 5) C 9 [.null, .null, .null, .null, .null, .null, .null, .null, .int 0] iL_law_5 tyX5_ok w_cl5 w_in5 w_ini5 rfl (fun j hj => by match j, hj with | 0, _ => rfl | 1, _ => rfl | 2, _ => rfl | 3, _ => rfl | 4, _ => rfl | 5, _ => rfl | 6, _ => rfl | 7, _ => rfl | 8, _ => rfl) (Nat.le_of_ble_eq_true rfl) (Nat.le_of_ble_eq_true rfl) dL_law_0 (fun q1 => ?_)
    refine n_dup C dL_law_3 rfl ?_
    refine n_init C (c_Qm_init l G q1) [0] [] [] rfl rfl rfl rfl (by decide) (by decide) gL_law_X5_init rfl w_ml5 w_ini5 w_im5 rfl kX5_init ⟨rfl, rfl⟩ ⟨Nat.le_of_ble_eq_true rfl, Nat.le_of_ble_eq_true rfl⟩ ⟨Nat.le_of_ble_eq_true rfl, Nat.le_of_ble_eq_true rfl⟩ (Nat.le_of_ble_eq_true rfl) dL_law_4 (fun u hu => ?_)
    obtain ⟨e1, e2, e3⟩ := hu
    refine n_astore_n C [(1, .ref q1), (0, .ref b)] dL_law_7 rfl (by decide) rfl ?_
    refine n_new (ci := 6) C 21 [.null, .null, .null, .null, .int 0, .null, .null, .null, .null, .int 0, .int 0, .null, .null, .int 0, .null, .null, .null, .int 0, .null, .int 0, .null] iL_law_6 tyX6_ok w_cl6 w_in6 w_ini6 rfl (fun j hj => by match j, hj with | 0, _ => rfl | 1, _ => rfl | 2, _ => rfl | 3, _ => rfl | 4, _ => rfl | 5, _ => rfl | 6, _ => rfl | 7, _ => rfl | 8, _ => rfl | 9, _ => rfl | 10, _ => rfl | 11, _ => rfl | 12, _ => rfl | 13, _ => rfl | 14, _ => rfl | 15, _ => rfl | 16, _ => rfl | 17, _ => rfl | 18, _ => rfl | 19, _ => rfl | 20, _ => rfl | k + 21, h => exact absurd h (by omega)) (Nat.le_of_ble_eq_true rfl) (Nat.le_of_ble_eq_true rfl) dL_law_8 (fun q2 => ?_)
    refine n_dup C dL_law_11 rfl ?_
    refine n_init C (c_Md_init l G q2) [42] (List.range 42) (cw G u.1 0 (fun _ => 0) (fun _ => 0) 0 0 (fun _ => 0) (fun _ => 0) (fun _ => 0) u.2.1 (fun _ => 0) (fun _ => 0) 0 (fun _ => 0) u.2.2 (fun _ => 0) (fun _ => 0) 0 (fun _ => 0) (fun _ => 0) 1 0 0 0 (fun _ _ => 0) (fun _ _ => 0) (fun _ => 1) (fun _ => 0) (fun _ => 0)) rfl rfl rfl (ap_l _ _ rfl) (by decide) (by decide) gL_law_X6_init rfl w_ml6 w_ini6 w_im6 rfl kX6_init ⟨rfl, rfl⟩ ⟨Nat.le_of_ble_eq_true rfl, Nat.le_of_ble_eq_true rfl⟩ ⟨Nat.le_of_ble_eq_true rfl, Nat.le_of_ble_eq_true rfl⟩ (Nat.le_of_ble_eq_true rfl) dL_law_12 (fun u2 hu2 => ?_)
    obtain ⟨v1, v2⟩ := hu2
    refine n_astore_n C [(2, .ref q2), (1, .ref q1), (0, .ref b)] dL_law_15 rfl (by decide) rfl ?_
    refine n_iconst C 0 dL_law_16 (by decide) ?_
    refine n_istore_n C [(3, .int 0), (2, .ref q2), (1, .ref q1), (0, .ref b)] dL_law_17 rfl (by decide) rfl ?_
    rw [← e1, ← v1]
    exact law_loop hL hr hlocks C hX hbl (L + 1) 0 (by omega) (by omega) 0 (fun _ => 0) (fun _ => 0) 0 0 (fun _ => 0) (fun _ => 0) (fun _ => 0) u.2.1 (fun _ => 0) (fun _ => 0) 0 (fun _ => 0) u.2.2 (fun _ => 0) (fun _ => 0) 0 (fun _ => 0) (fun _ => 0) 1 0 0 0 (fun _ _ => 0) (fun _ _ => 0) (fun _ => 1) (fun _ => 0) (fun _ => 0) u2.2 (fun _ => 0) (fun _ => 0) (fun _ => 0) 0 (fun _ => 0) (fun _ => 0) (fun _ => 0) (fun _ => 0) 0 0 (fun _ => 0) (fun _ => 0) 0 (fun _ => 0) (fun _ => 0) (fun _ => 0) 0 (fun _ => 0) 0 (fun _ => 0) (inv_0 e2 e3 v2)
  have hl := lv_entry ([.ref b]) (n := 4) (Nat.le_of_ble_eq_true rfl)
  rw [lg_entry_eq]
  generalize (lg_sl ([.ref b]) ++ List.replicate (4 - (lg_sl ([.ref b])).length) Slot.unset).toArray = ls at hl ⊢
  have hl : lv_has ls 4 [(0, .ref b)] := hl
  exact K s.heap [] ls (fun k q h => by simp at h) ⟨fun i j p q h => by simp at h, fun k q h => by simp at h⟩ va_S.rf hl
