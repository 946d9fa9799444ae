/-! Counts. -/
def sumI (g : Nat → Int32) : Nat → Int32
  | 0 => 0
  | n + 1 => sumI g n + g n
noncomputable def countF (D : Nat → Nat → Nat → Bool) (kn lf w : Int32) : Int32 :=
  if w = 0 then nI (ctg (D 0)) else if w = 1 then nI (ctg (D 1)) else if w = 2 then nI (ctg (D 2)) else if w = 3 then nI (ctg (D 3)) else
  if w = 4 then sumI (fun m => blocksF (D m) 0) 4 else if w = 5 then sumI (fun m => nI (partsN (D m))) 4 else if w = 6 then kn else
  if w = 7 then nI (ctg (fun x y => ((D 0 x y && D 1 x y) && D 2 x y) && D 3 x y)) else if w = 8 then lf else (-2)
theorem blocksF_0 (d : Nat → Nat → Bool) : blocksF d 0 = nI ((sq d 4 0 0).length - (sq d 4 0 0).count 2) := by
  unfold blocksF
  rw [if_pos rfl]
theorem le4 : (4 : Int32) ≤ nI 4 := by decide
theorem ge4 {i : Nat} (h : i < 4) : ¬ (4 : Int32) ≤ nI i := nI_ge (b := 4) h (by omega)
theorem qs_bAll {sS sL : IA} {sT sD sM sX : Int32} {mk : Nat → IA} (hS : SignsOK sS sL sT sD sM sX) (hg : ∀ m, m < 4 → g16 (mk m)) {Q : Int32 → IA → IA → Int32 → Int32 → Int32 → Int32 → Prop} (hQ : ∀ S L T D M X, SignsOK S L T D M X → Q (sumI (fun m => blocksF (dk (mk m)) 0) 4) S L T D M X) : wp_Qm_blocksOfAll sS sL sT sD sM sX mk Q := by
  unfold wp_Qm_blocksOfAll
  refine lp (fun n i (s : Int32 × IA × IA × Int32 × Int32 × Int32 × Int32) => wl_Qm_blocksOfAll_4 mk Q n (nI i) s.1 s.2.1 s.2.2.1 s.2.2.2.1 s.2.2.2.2.1 s.2.2.2.2.2.1 s.2.2.2.2.2.2) (fun i s => s.1 = sumI (fun m => blocksF (dk (mk m)) 0) i ∧ SignsOK s.2.1 s.2.2.1 s.2.2.2.1 s.2.2.2.2.1 s.2.2.2.2.2.1 s.2.2.2.2.2.2) 4 (0, sS, sL, sT, sD, sM, sX) ⟨rfl, hS⟩ (fun n s h => ?_) (fun n i s hi h ih => ?_)
  · obtain ⟨v, S, L, T, D, M, X⟩ := s
    obtain ⟨h1, h2⟩ := h
    simp only at h1 h2
    show wl_Qm_blocksOfAll_4 mk Q (n + 1) (nI 4) v S L T D M X
    rw [wl_Qm_blocksOfAll_4]
    subst h1
    exact ⟨fun _ => hQ _ _ _ _ _ _ h2, fun q => absurd le4 q⟩
  · obtain ⟨v, S, L, T, D, M, X⟩ := s
    obtain ⟨h1, h2⟩ := h
    simp only at h1 h2
    show wl_Qm_blocksOfAll_4 mk Q (n + 1) (nI i) v S L T D M X
    rw [wl_Qm_blocksOfAll_4]
    refine ⟨fun q => absurd q (ge4 hi), fun _ => ⟨vp_in_nI hi (by omega), ?_⟩⟩
    rw [clN (by omega)]
    refine s_siLook h2 (hg i hi) (fun S' L' T' D' M' X' h e => ?_)
    intro v2 ev2
    rw [nI_1]
    refine ih (v2, S', L', T', D', M', X') ⟨?_, h⟩
    obtain ⟨a1, a2, a3, a4, a5, a6⟩ := h
    rw [e] at a2 a5
    show v2 = sumI (fun m => blocksF (dk (mk m)) 0) i + blocksF (dk (mk i)) 0
    rw [ev2, h1, a2, a5, blocksF_0, pk_sub (by rw [← ctl_eq]; exact ctl_le _ _)]
theorem qs_pAll {dS dL dR dF : IA} {dP : Int32} {mk : Nat → IA} (hP : PartsOK dS dL dF dP) (hg : ∀ m, m < 4 → g16 (mk m)) {Q : Int32 → IA → IA → IA → IA → Int32 → Prop} (hQ : ∀ S L R F P, PartsOK S L F P → Q (sumI (fun m => nI (partsN (dk (mk m)))) 4) S L R F P) : wp_Qm_partsOfAll dS dL dR dF dP mk Q := by
  unfold wp_Qm_partsOfAll
  refine lp (fun n i (s : Int32 × IA × IA × IA × IA × Int32) => wl_Qm_partsOfAll_4 mk Q n (nI i) s.1 s.2.1 s.2.2.1 s.2.2.2.1 s.2.2.2.2.1 s.2.2.2.2.2) (fun i s => s.1 = sumI (fun m => nI (partsN (dk (mk m)))) i ∧ PartsOK s.2.1 s.2.2.1 s.2.2.2.2.1 s.2.2.2.2.2) 4 (0, dS, dL, dR, dF, dP) ⟨rfl, hP⟩ (fun n s h => ?_) (fun n i s hi h ih => ?_)
  · obtain ⟨v, S, L, R, F, P⟩ := s
    obtain ⟨h1, h2⟩ := h
    simp only at h1 h2
    show wl_Qm_partsOfAll_4 mk Q (n + 1) (nI 4) v S L R F P
    rw [wl_Qm_partsOfAll_4]
    subst h1
    exact ⟨fun _ => hQ _ _ _ _ _ h2, fun q => absurd le4 q⟩
  · obtain ⟨v, S, L, R, F, P⟩ := s
    obtain ⟨h1, h2⟩ := h
    simp only at h1 h2
    show wl_Qm_partsOfAll_4 mk Q (n + 1) (nI i) v S L R F P
    rw [wl_Qm_partsOfAll_4]
    refine ⟨fun q => absurd q (ge4 hi), fun _ => ⟨vp_in_nI hi (by omega), ?_⟩⟩
    rw [clN (by omega)]
    refine s_paF h2 (hg i hi) (fun S' L' R' F' P' h hf => ?_)
    intro v2 ev2
    rw [nI_1]
    refine ih (v2, S', L', R', F', P') ⟨?_, h⟩
    show v2 = sumI (fun m => nI (partsN (dk (mk m)))) i + nI (partsN (dk (mk i)))
    rw [ev2, h1, hf.1]
theorem qs_inAll {mk : Nat → IA} (hg : ∀ m, m < 4 → g16 (mk m)) {Q : Int32 → Prop} (hQ : Q (nI (ctg (fun x y => ((dk (mk 0) x y && dk (mk 1) x y) && dk (mk 2) x y) && dk (mk 3) x y)))) : wp_Qm_cellsDarkInAll mk Q := by
  unfold wp_Qm_cellsDarkInAll
  have e : ctg (fun x y => ((dk (mk 0) x y && dk (mk 1) x y) && dk (mk 2) x y) && dk (mk 3) x y) = fb_sm (fun y => fb_ct (bt (((mk 0 y &&& mk 1 y) &&& mk 2 y) &&& mk 3 y)) 16) 16 := by
    rw [ct_grid]
    apply fb_sm_cong
    intro y hy
    apply fb_ct_cong
    intro x hx
    rw [dk_in hx hy, dk_in hx hy, dk_in hx hy, dk_in hx hy, b_and, b_and, b_and]
  rw [e] at hQ
  refine lp (fun n i (s : Int32) => wl_Qm_cellsDarkInAll_4 mk Q n (nI i) s) (fun i s => s = nI (fb_sm (fun y => fb_ct (bt (((mk 0 y &&& mk 1 y) &&& mk 2 y) &&& mk 3 y)) 16) i)) 16 0 rfl (fun n s h => ?_) (fun n i s hi h ih => ?_)
  · rw [wl_Qm_cellsDarkInAll_4]
    subst h
    exact ⟨fun _ => hQ, fun q => absurd le16 q⟩
  · rw [wl_Qm_cellsDarkInAll_4]
    refine ⟨fun q => absurd q (ge16 hi), fun _ => ⟨v04, ?_⟩⟩
    rw [cl0, cl1, cl2, cl3, e_row, brA (in16 hi), e_row, brA (in16 hi), e_row, brA (in16 hi), e_row, brA (in16 hi), clN (by omega), nI_1]
    refine ⟨v14, v24, v34, s_bitCount (r16_and _ (r16_and _ (r16_and _ (hg 0 (by omega) i hi)))) (fun v ev => ih _ ?_)⟩
    rw [ev, h, nI_add, fb_sm_succ]
theorem qs_count {lf chK : Int32} {dS dL dR dF sS sL : IA} {dP sT sD sM sX : Int32} {mk : Nat → IA} (hP : PartsOK dS dL dF dP) (hS : SignsOK sS sL sT sD sM sX) (hg : ∀ m, m < 4 → g16 (mk m)) (w : Int32) {Q : Int32 → IA → IA → IA → IA → Int32 → IA → IA → Int32 → Int32 → Int32 → Int32 → Prop}
    (hQ : ∀ S L R F P S2 L2 T D M X, PartsOK S L F P → SignsOK S2 L2 T D M X → Q (countF (fun m => dk (mk m)) chK lf w) S L R F P S2 L2 T D M X) : wp_Qm_count lf chK dS dL dR dF dP sS sL sT sD sM sX mk w Q := by
  unfold wp_Qm_count
  unfold countF at hQ
  refine ⟨fun q => ?_, fun q0 => ⟨fun q => ?_, fun q1 => ⟨fun q => ?_, fun q2 => ⟨fun q => ?_, fun q3 => ⟨fun q => ?_, fun q4 => ⟨fun q => ?_, fun q5 => ⟨fun q => ?_, fun q6 => ⟨fun q => ?_, fun q7 => ⟨fun q => ?_, fun q8 => ?_⟩⟩⟩⟩⟩⟩⟩⟩⟩
  · rw [if_pos q] at hQ
    rw [q, cl0]
    exact ⟨v04, s_darkCells (hg 0 (by omega)) (hQ _ _ _ _ _ _ _ _ _ _ _ hP hS)⟩
  · rw [if_neg q0, if_pos q] at hQ
    rw [q, cl1]
    exact ⟨v14, s_darkCells (hg 1 (by omega)) (hQ _ _ _ _ _ _ _ _ _ _ _ hP hS)⟩
  · rw [if_neg q0, if_neg q1, if_pos q] at hQ
    rw [q, cl2]
    exact ⟨v24, s_darkCells (hg 2 (by omega)) (hQ _ _ _ _ _ _ _ _ _ _ _ hP hS)⟩
  · rw [if_neg q0, if_neg q1, if_neg q2, if_pos q] at hQ
    rw [q, cl3]
    exact ⟨v34, s_darkCells (hg 3 (by omega)) (hQ _ _ _ _ _ _ _ _ _ _ _ hP hS)⟩
  · rw [if_neg q0, if_neg q1, if_neg q2, if_neg q3, if_pos q] at hQ
    exact qs_bAll hS hg (fun S L T D M X h => hQ _ _ _ _ _ _ _ _ _ _ _ hP h)
  · rw [if_neg q0, if_neg q1, if_neg q2, if_neg q3, if_neg q4, if_pos q] at hQ
    exact qs_pAll hP hg (fun S L R F P h => hQ _ _ _ _ _ _ _ _ _ _ _ h hS)
  · rw [if_neg q0, if_neg q1, if_neg q2, if_neg q3, if_neg q4, if_neg q5, if_pos q] at hQ
    exact hQ _ _ _ _ _ _ _ _ _ _ _ hP hS
  · rw [if_neg q0, if_neg q1, if_neg q2, if_neg q3, if_neg q4, if_neg q5, if_neg q6, if_pos q] at hQ
    exact qs_inAll hg (hQ _ _ _ _ _ _ _ _ _ _ _ hP hS)
  · rw [if_neg q0, if_neg q1, if_neg q2, if_neg q3, if_neg q4, if_neg q5, if_neg q6, if_neg q7, if_pos q] at hQ
    exact hQ _ _ _ _ _ _ _ _ _ _ _ hP hS
  · rw [if_neg q0, if_neg q1, if_neg q2, if_neg q3, if_neg q4, if_neg q5, if_neg q6, if_neg q7, if_neg q8] at hQ
    exact hQ _ _ _ _ _ _ _ _ _ _ _ hP hS
/-! the reference's -/
theorem qt_bAll {rows wX wY wS sg mn : IA} {ww sn : Int32} {Q : Int32 → IA → IA → IA → Int32 → IA → Int32 → IA → Prop} (hQ : ∀ a b c d e f g, Q (sumI (fun m => blocksF (dk (mg rows m)) 0) 4) a b c d e f g) : wp_Md_allBlocks rows wX wY wS ww sg sn mn Q := by
  unfold wp_Md_allBlocks
  refine lp (fun n i (s : Int32 × IA × IA × IA × Int32 × IA × Int32 × IA) => wl_Md_allBlocks_4 rows Q n (nI i) s.1 s.2.1 s.2.2.1 s.2.2.2.1 s.2.2.2.2.1 s.2.2.2.2.2.1 s.2.2.2.2.2.2.1 s.2.2.2.2.2.2.2) (fun i s => s.1 = sumI (fun m => blocksF (dk (mg rows m)) 0) i) 4 (0, wX, wY, wS, ww, sg, sn, mn) rfl (fun n s h => ?_) (fun n i s hi h ih => ?_)
  · obtain ⟨v, b1, b2, b3, b4, b5, b6, b7⟩ := s
    simp only at h
    show wl_Md_allBlocks_4 rows Q (n + 1) (nI 4) v b1 b2 b3 b4 b5 b6 b7
    rw [wl_Md_allBlocks_4]
    subst h
    exact ⟨fun _ => hQ _ _ _ _ _ _ _, fun q => absurd le4 q⟩
  · obtain ⟨v, b1, b2, b3, b4, b5, b6, b7⟩ := s
    simp only at h
    show wl_Md_allBlocks_4 rows Q (n + 1) (nI i) v b1 b2 b3 b4 b5 b6 b7
    rw [wl_Md_allBlocks_4]
    refine ⟨fun q => absurd q (ge4 hi), fun _ => qt_blocks hi v04 (fun c1 c2 c3 c4 c5 c6 c7 => ?_)⟩
    intro v2 ev2
    rw [nI_1]
    refine ih (v2, c1, c2, c3, c4, c5, c6, c7) ?_
    show v2 = sumI (fun m => blocksF (dk (mg rows m)) 0) i + blocksF (dk (mg rows i)) 0
    rw [ev2, h]
theorem qt_pAll {rows label pile : IA} {parts : Int32} {Q : Int32 → IA → IA → Int32 → Prop} (hQ : ∀ a b c, Q (sumI (fun m => nI (partsN (dk (mg rows m)))) 4) a b c) : wp_Md_allParts rows label pile parts Q := by
  unfold wp_Md_allParts
  refine lp (fun n i (s : Int32 × IA × IA × Int32) => wl_Md_allParts_4 rows Q n (nI i) s.1 s.2.1 s.2.2.1 s.2.2.2) (fun i s => s.1 = sumI (fun m => nI (partsN (dk (mg rows m)))) i) 4 (0, label, pile, parts) rfl (fun n s h => ?_) (fun n i s hi h ih => ?_)
  · obtain ⟨v, b1, b2, b3⟩ := s
    simp only at h
    show wl_Md_allParts_4 rows Q (n + 1) (nI 4) v b1 b2 b3
    rw [wl_Md_allParts_4]
    subst h
    exact ⟨fun _ => hQ _ _ _, fun q => absurd le4 q⟩
  · obtain ⟨v, b1, b2, b3⟩ := s
    simp only at h
    show wl_Md_allParts_4 rows Q (n + 1) (nI i) v b1 b2 b3
    rw [wl_Md_allParts_4]
    refine ⟨fun q => absurd q (ge4 hi), fun _ => ?_⟩
    unfold wp_Md_partsOf
    refine t_labF hi (fun lab pile' _ _ _ => ?_)
    intro v2 ev2
    rw [nI_1]
    refine ih (v2, lab, pile', nI (partsN (dk (mg rows i)))) ?_
    show v2 = sumI (fun m => nI (partsN (dk (mg rows m)))) i + nI (partsN (dk (mg rows i)))
    rw [ev2, h]
theorem and04 (a b c d : Bool) : ((((if a then (1 : Int32) else 0) &&& (if b then 1 else 0)) &&& (if c then 1 else 0)) &&& (if d then 1 else 0)) = nI (if ((a && b) && c) && d then 1 else 0) := by
  cases a <;> cases b <;> cases c <;> cases d <;> rfl
theorem qt_inAll {rows : IA} {Q : Int32 → Prop} (hQ : Q (nI (ctg (fun x y => ((dk (mg rows 0) x y && dk (mg rows 1) x y) && dk (mg rows 2) x y) && dk (mg rows 3) x y)))) : wp_Md_inAll rows Q := by
  unfold wp_Md_inAll
  refine lp (fun n i (s : Int32) => wl_Md_inAll_4 rows Q n (nI i) s) (fun i s => s = nI (fb_ct (fun c => ((dk (mg rows 0) (c % 16) (c / 16) && dk (mg rows 1) (c % 16) (c / 16)) && dk (mg rows 2) (c % 16) (c / 16)) && dk (mg rows 3) (c % 16) (c / 16)) i)) 256 0 rfl (fun n s h => ?_) (fun n i s hi h ih => ?_)
  · rw [wl_Md_inAll_4]
    subst h
    exact ⟨fun _ => hQ, fun q => absurd le256 q⟩
  · rw [wl_Md_inAll_4]
    refine ⟨fun q => absurd q (ge256 hi), fun _ x ex y ey => ?_⟩
    rw [r16d hi] at ex
    rw [d16d hi] at ey
    subst ex; subst ey
    refine (e_darkN rows (m := 0) (by omega) (by omega) (by omega) _).mpr ((e_darkN rows (m := 1) (by omega) (by omega) (by omega) _).mpr ((e_darkN rows (m := 2) (by omega) (by omega) (by omega) _).mpr ((e_darkN rows (m := 3) (by omega) (by omega) (by omega) _).mpr ?_)))
    intro v ev
    rw [nI_1]
    refine ih _ ?_
    rw [ev, and04, h, nI_add, fb_ct_succ]
theorem qt_count {latest known : Int32} {rows label pile wX wY wS sg mn : IA} {parts ww sn : Int32} (w : Int32) {Q : Int32 → IA → IA → Int32 → IA → IA → IA → Int32 → IA → Int32 → IA → Prop} (hQ : ∀ a1 a2 a3 b1 b2 b3 b4 b5 b6 b7, Q (countF (fun m => dk (mg rows m)) known latest w) a1 a2 a3 b1 b2 b3 b4 b5 b6 b7) : wp_Md_count latest rows known label pile parts wX wY wS ww sg sn mn w Q := by
  unfold wp_Md_count
  unfold countF at hQ
  refine ⟨fun q => ?_, fun q0 => ⟨fun q => ?_, fun q1 => ⟨fun q => ?_, fun q2 => ⟨fun q => ?_, fun q3 => ⟨fun q => ?_, fun q4 => ⟨fun q => ?_, fun q5 => ⟨fun q => ?_, fun q6 => ⟨fun q => ?_, fun q7 => ⟨fun q => ?_, fun q8 => ?_⟩⟩⟩⟩⟩⟩⟩⟩⟩
  · rw [if_pos q] at hQ
    rw [q]
    exact t_darkOf rows (m := 0) (by omega) (hQ _ _ _ _ _ _ _ _ _ _)
  · rw [if_neg q0, if_pos q] at hQ
    rw [q]
    exact t_darkOf rows (m := 1) (by omega) (hQ _ _ _ _ _ _ _ _ _ _)
  · rw [if_neg q0, if_neg q1, if_pos q] at hQ
    rw [q]
    exact t_darkOf rows (m := 2) (by omega) (hQ _ _ _ _ _ _ _ _ _ _)
  · rw [if_neg q0, if_neg q1, if_neg q2, if_pos q] at hQ
    rw [q]
    exact t_darkOf rows (m := 3) (by omega) (hQ _ _ _ _ _ _ _ _ _ _)
  · rw [if_neg q0, if_neg q1, if_neg q2, if_neg q3, if_pos q] at hQ
    exact qt_bAll (fun _ _ _ _ _ _ _ => hQ _ _ _ _ _ _ _ _ _ _)
  · rw [if_neg q0, if_neg q1, if_neg q2, if_neg q3, if_neg q4, if_pos q] at hQ
    exact qt_pAll (fun _ _ _ => hQ _ _ _ _ _ _ _ _ _ _)
  · rw [if_neg q0, if_neg q1, if_neg q2, if_neg q3, if_neg q4, if_neg q5, if_pos q] at hQ
    exact hQ _ _ _ _ _ _ _ _ _ _
  · rw [if_neg q0, if_neg q1, if_neg q2, if_neg q3, if_neg q4, if_neg q5, if_neg q6, if_pos q] at hQ
    exact qt_inAll (hQ _ _ _ _ _ _ _ _ _ _)
  · rw [if_neg q0, if_neg q1, if_neg q2, if_neg q3, if_neg q4, if_neg q5, if_neg q6, if_neg q7, if_pos q] at hQ
    exact hQ _ _ _ _ _ _ _ _ _ _
  · rw [if_neg q0, if_neg q1, if_neg q2, if_neg q3, if_neg q4, if_neg q5, if_neg q6, if_neg q7, if_neg q8] at hQ
    exact hQ _ _ _ _ _ _ _ _ _ _
theorem hist_k {chM chR om or0 : IA} {chN chK known : Int32} (h : HistOK chM chR chN chK om or0 known) : chK = known := by
  obtain ⟨k, n, _, _, e1, e2, e3, _⟩ := h
  first | rw [e1, e3] | rw [e2, e3] | rw [e1, e2]
theorem count_eq {D D' : Nat → Nat → Nat → Bool} (h : ∀ m, m < 4 → D m = D' m) (kn lf w : Int32) : countF D kn lf w = countF D' kn lf w := by
  unfold countF
  have h0 := h 0 (by omega)
  have h1 := h 1 (by omega)
  have h2 := h 2 (by omega)
  have h3 := h 3 (by omega)
  simp only [sumI, h0, h1, h2, h3]
