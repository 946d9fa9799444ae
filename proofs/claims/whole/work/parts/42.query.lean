/-! Signs, two masks: what is answered. -/
def blocksF (d : Nat → Nat → Bool) (w : Int32) : Int32 := if w = 0 then nI ((sq d 4 0 0).length - (sq d 4 0 0).count 2) else if w = 1 then nI ((sq d 4 0 0).count 1) else if w = 2 then nI ((sq d 4 0 0).count 2) else nI (dpt d 4 0 0)
def shownF (d : Nat → Nat → Bool) (i : Int32) : Int32 := if i = (-1) then nI (sq d 4 0 0).length else if i.toInt < ((sq d 4 0 0).length : Int) then nI ((sq d 4 0 0).getD i.toNatClampNeg 0) else (-1)
theorem b_nf {b : Bool} (h : ¬ b = false) : b = true := by
  cases b
  · exact absurd rfl h
  · rfl
theorem i1z : (-1 : Int32).toInt = -1 := rfl
theorem i0z : (0 : Int32).toInt = 0 := rfl
theorem ne_m1 {n : Nat} (h : n < 2147483648) : ¬ nI n = (-1) := by
  intro q
  have q2 := congrArg Int32.toInt q
  rw [n_t h, i1z] at q2
  omega
theorem f_im1 (a : Int32) (Q : Int32 → Prop) : wp_Md_in (Int32.toInt64 a) (-1) 340 Q ↔ ((a = (-1) ∨ vp_in a 341 → Q 1) ∧ (¬ (a = (-1) ∨ vp_in a 341) → Q 0)) := by
  rw [e_in, t64, vin, i_eq, i1z]
  have h0 : (-1 : Int64).toInt = -1 := rfl
  have h1 : (340 : Int64).toInt = 340 := rfl
  rw [h0, h1]
  have e : (-1 ≤ a.toInt ∧ a.toInt ≤ 340) ↔ (a.toInt = -1 ∨ 0 ≤ a.toInt ∧ a.toInt < (341 : Nat)) := by omega
  rw [e]
theorem s_siSign {l : List Nat} {L : IA} {i : Nat} (hl : l.length ≤ 341) (hn : nums L l) (hi : i < 341) {Q : Int32 → Prop} (h1 : i < l.length → Q (nI (l.getD i 0))) (h0 : ¬ i < l.length → Q (-1)) : wp_Si_sign L (nI l.length) (nI i) Q := by
  unfold wp_Si_sign
  rw [e_within _ _ (by omega)]
  refine ⟨fun h => ?_, fun h => ?_⟩
  · rw [vinN (by omega)] at h
    rw [br1, e_w341, brA (vp_in_nI hi (by omega)), br1, clN (by omega), hn i h]
    exact ⟨vp_in_nI hi (by omega), h1 h⟩
  · rw [vinN (by omega)] at h
    rw [br0]
    exact h0 h
theorem shownF_m1 (d : Nat → Nat → Bool) : shownF d (-1) = nI (sq d 4 0 0).length := by
  unfold shownF
  rw [if_pos rfl]
theorem shownF_in {d : Nat → Nat → Bool} {i : Nat} (hi : i < 341) (h : i < (sq d 4 0 0).length) : shownF d (nI i) = nI ((sq d 4 0 0).getD i 0) := by
  unfold shownF
  rw [if_neg (ne_m1 (by omega)), n_t (by omega), clN (by omega), if_pos (by omega)]
theorem shownF_out {d : Nat → Nat → Bool} {i : Nat} (hi : i < 341) (h : ¬ i < (sq d 4 0 0).length) : shownF d (nI i) = (-1) := by
  unfold shownF
  rw [if_neg (ne_m1 (by omega)), n_t (by omega), if_neg (by omega)]
theorem qs_blocks {sS sL : IA} {sT sD sM sX : Int32} {mk : Nat → IA} {m : Nat} {w : Int32} (hS : SignsOK sS sL sT sD sM sX) (hm : m < 4) (hg : g16 (mk m)) (hw : vp_in w 4) {Q : Int32 → IA → IA → Int32 → Int32 → Int32 → Int32 → Prop} (hQ : ∀ S L T D M X, SignsOK S L T D M X → Q (blocksF (dk (mk m)) w) S L T D M X) : wp_Qm_blocks sS sL sT sD sM sX mk (nI m) w Q := by
  have h1 : vp_in (nI m) 4 := vp_in_nI hm (by omega)
  simp only [wp_Qm_blocks, e_isMask, e_w4, br1, br0, h1, hw, not_true_eq_false, not_false_eq_true, true_implies, false_implies, and_true, true_and]
  rw [clN (by omega)]
  refine s_siLook hS hg (fun S L T D M X h e => ?_)
  obtain ⟨a1, a2, a3, a4, a5, a6⟩ := h
  have fin : ∀ v : Int32, v = blocksF (dk (mk m)) w → Q v S L T D M X := fun v ev => by rw [ev]; exact hQ _ _ _ _ _ _ ⟨a1, a2, a3, a4, a5, a6⟩
  rw [e] at a2 a4 a5 a6
  unfold blocksF at fin
  refine ⟨fun q => fin _ ?_, fun q => ⟨fun q1 => fin _ ?_, fun q1 => ⟨fun q2 => fin _ ?_, fun q2 => fin _ ?_⟩⟩⟩
  · rw [if_pos q, a2, a5, pk_sub (by rw [← ctl_eq]; exact ctl_le _ _)]
  · rw [if_neg q, if_pos q1, a4]
  · rw [if_neg q, if_neg q1, if_pos q2, a5]
  · rw [if_neg q, if_neg q1, if_neg q2, a6]
theorem qt_blocks {rows wX wY wS sg mn : IA} {m : Nat} {w : Int32} (hm : m < 4) (hw : vp_in w 4) {Q : Int32 → IA → IA → IA → Int32 → IA → Int32 → IA → Prop} (hQ : ∀ a b c d e f g, Q (blocksF (dk (mg rows m)) w) a b c d e f g) : wp_Md_blocksBy rows wX wY wS sg mn (nI m) w Q := by
  unfold wp_Md_blocksBy
  refine t_shows hm (fun wX' wY' wS' ww sg' mn' a1 a2 a3 a4 a5 => ⟨hw, ?_⟩)
  have fin : ∀ v : Int32, v = blocksF (dk (mg rows m)) w → Q v wX' wY' wS' ww sg' (nI (sq (dk (mg rows m)) 4 0 0).length) mn' := fun v ev => by rw [ev]; exact hQ _ _ _ _ _ _ _
  obtain ⟨k, hk, rfl⟩ := vp_in_of hw (by omega)
  rw [clN (by omega)]
  refine fin _ ?_
  have h : k = 0 ∨ k = 1 ∨ k = 2 ∨ k = 3 := by omega
  unfold blocksF
  rcases h with h | h | h | h
  · subst h; rw [a2, if_pos (by decide)]
  · subst h; rw [a3, if_neg (by decide), if_pos (by decide)]
  · subst h; rw [a4, if_neg (by decide), if_neg (by decide), if_pos (by decide)]
  · subst h; rw [a5, if_neg (by decide), if_neg (by decide), if_neg (by decide)]
theorem qs_shown {sS sL : IA} {sT sD sM sX : Int32} {mk : Nat → IA} {m : Nat} {i : Int32} (hS : SignsOK sS sL sT sD sM sX) (hm : m < 4) (hg : g16 (mk m)) (hi : i = (-1) ∨ vp_in i 341) {Q : Int32 → IA → IA → Int32 → Int32 → Int32 → Int32 → Prop} (hQ : ∀ S L T D M X, SignsOK S L T D M X → Q (shownF (dk (mk m)) i) S L T D M X) : wp_Qm_shown sS sL sT sD sM sX mk (nI m) i Q := by
  have h1 : vp_in (nI m) 4 := vp_in_nI hm (by omega)
  have key : wj_Qm_shown_25 sS sL sT sD sM sX mk (nI m) i Q := by
    unfold wj_Qm_shown_25
    rw [clN (by omega)]
    refine ⟨h1, s_siLook hS hg (fun S L T D M X h e => ?_)⟩
    have hq := hQ S L T D M X h
    obtain ⟨a1, a2, a3, a4, a5, a6⟩ := h
    rw [e] at a2 a3
    refine ⟨fun q => ?_, fun q => ?_⟩
    · rw [q, shownF_m1] at hq
      rw [a2]
      rw [a2] at hq
      exact hq
    · obtain ⟨j, hj, rfl⟩ := vp_in_of (hi.resolve_left q) (by omega)
      rw [a2]
      rw [a2] at hq
      refine s_siSign (sq_341 _ _ _) a3 hj (fun h => ?_) (fun h => ?_)
      · rw [shownF_in hj h] at hq; exact hq
      · rw [shownF_out hj h] at hq; exact hq
  unfold wp_Qm_shown
  rw [e_isMask, brA h1, br1]
  dsimp only [jn]
  refine ⟨fun _ => key, fun q => ?_⟩
  rw [e_w341, brA (hi.resolve_left q), br1]
  exact key
theorem qt_signBy {d : Nat → Nat → Bool} {sg : IA} {i : Int32} (hn : nums sg (sq d 4 0 0)) (hi : i = (-1) ∨ vp_in i 341) {Q : Int32 → Prop} (hQ : Q (shownF d i)) : wp_Md_signBy sg (nI (sq d 4 0 0).length) i Q := by
  unfold wp_Md_signBy
  have hl := sq_341 d 0 0
  refine ⟨fun q => ?_, fun q => ?_⟩
  · rw [q, shownF_m1] at hQ; exact hQ
  · obtain ⟨j, hj, rfl⟩ := vp_in_of (hi.resolve_left q) (by omega)
    refine ⟨fun w => ?_, fun w => ⟨vp_in_nI hj (by omega), ?_⟩⟩
    · have := (nI_leI (by omega) (by omega)).mp w
      rw [shownF_out hj (by omega)] at hQ
      exact hQ
    · have : ¬ (sq d 4 0 0).length ≤ j := fun z => w ((nI_leI (by omega) (by omega)).mpr z)
      rw [shownF_in hj (by omega)] at hQ
      rw [clN (by omega), hn j (by omega)]
      exact hQ
theorem qt_shown {rows wX wY wS sg mn : IA} {m : Nat} {i : Int32} (hm : m < 4) (hi : i = (-1) ∨ vp_in i 341) {Q : Int32 → IA → IA → IA → Int32 → IA → Int32 → IA → Prop} (hQ : ∀ a b c d e f g, Q (shownF (dk (mg rows m)) i) a b c d e f g) : wp_Md_shownBy rows wX wY wS sg mn (nI m) i Q := by
  unfold wp_Md_shownBy
  exact t_shows hm (fun wX' wY' wS' ww sg' mn' a1 a2 a3 a4 a5 => qt_signBy a1 hi (hQ _ _ _ _ _ _ _))
/-! two masks -/
noncomputable def p01 (P : Prop) : Int32 := @ite Int32 P (Classical.propDecidable P) 1 0
theorem p01_t {P : Prop} (h : P) : p01 P = 1 := if_pos h
theorem p01_f {P : Prop} (h : ¬ P) : p01 P = 0 := if_neg h
theorem p01_c {P R : Prop} (h : P ↔ R) : p01 P = p01 R := by
  by_cases q : P
  · rw [p01_t q, p01_t (h.mp q)]
  · rw [p01_f q, p01_f (fun w => q (h.mpr w))]
theorem p01_0 {P : Prop} : p01 P = 0 ↔ ¬ P := by
  by_cases q : P
  · rw [p01_t q]; exact ⟨fun h => absurd h (by decide), fun h => absurd q h⟩
  · rw [p01_f q]; exact ⟨fun _ => q, fun _ => rfl⟩
def likeP (d1 d2 : Nat → Nat → Bool) (n : Nat) : Prop := ∀ c, c < n → d1 (c % 16) (c / 16) = d2 (c % 16) (c / 16)
def inP (d1 d2 : Nat → Nat → Bool) (n : Nat) : Prop := ∀ c, c < n → d1 (c % 16) (c / 16) = true → d2 (c % 16) (c / 16) = true
def tchP (d1 d2 : Nat → Nat → Bool) (n : Nat) : Prop := ∃ c, c < n ∧ d1 (c % 16) (c / 16) = true ∧ nb d2 (c % 16) (c / 16) = true
noncomputable def bothF (d1 d2 : Nat → Nat → Bool) (w : Int32) : Int32 := if w = 2 then nI (ctg (fun x y => d1 x y && d2 x y)) else if w = 0 then p01 (likeP d1 d2 256) else if w = 1 then p01 (inP d1 d2 256) else p01 (tchP d1 d2 256)
theorem dz_p1 {f : IA} {x y : Nat} : dz f ((x : Int) + 1) y = dk f (x + 1) y := by
  rw [show ((x : Int) + 1) = ((x + 1 : Nat) : Int) by omega, dz_nat]
theorem dz_m1 {f : IA} {x y : Nat} : dz f ((x : Int) - 1) y = (decide (1 ≤ x) && dk f (x - 1) y) := by
  by_cases h : 1 ≤ x
  · rw [show ((x : Int) - 1) = ((x - 1 : Nat) : Int) by omega, dz_nat, decide_eq_true h, Bool.true_and]
  · rw [decide_eq_false h, Bool.false_and, dz_def, decide_eq_false (by omega), Bool.false_and]
theorem dz_q1 {f : IA} {x y : Nat} : dz f x ((y : Int) + 1) = dk f x (y + 1) := by
  rw [show ((y : Int) + 1) = ((y + 1 : Nat) : Int) by omega, dz_nat]
theorem dz_n1 {f : IA} {x y : Nat} : dz f x ((y : Int) - 1) = (decide (1 ≤ y) && dk f x (y - 1)) := by
  by_cases h : 1 ≤ y
  · rw [show ((y : Int) - 1) = ((y - 1 : Nat) : Int) by omega, dz_nat, decide_eq_true h, Bool.true_and]
  · rw [decide_eq_false h, Bool.false_and, dz_def, decide_eq_false (by omega), Bool.false_and]
theorem add1_t {x : Nat} (h : x < 65536) : (nI x + 1).toInt = (x : Int) + 1 := by
  rw [nI_1, n_t (by omega)]; omega
/-- the four sides of a cell, as the reference asks for them -/
theorem e_nb4 (rows : IA) {m x y : Nat} (hm : m < 4) (hx : x < 16) (hy : y < 16) (Q : Int32 → Int32 → Int32 → Int32 → Prop) : wp_Md_dark rows (nI m) (nI x + 1) (nI y) (fun r_3 => wp_Md_dark rows (nI m) (nI x - 1) (nI y) (fun r_4 => wp_Md_dark rows (nI m) (nI x) (nI y + 1) (fun r_5 => wp_Md_dark rows (nI m) (nI x) (nI y - 1) (fun r_6 => Q r_3 r_4 r_5 r_6)))) ↔
    Q (if dk (mg rows m) (x + 1) y then 1 else 0) (if (decide (1 ≤ x) && dk (mg rows m) (x - 1) y) then 1 else 0) (if dk (mg rows m) x (y + 1) then 1 else 0) (if (decide (1 ≤ y) && dk (mg rows m) x (y - 1)) then 1 else 0) := by
  rw [e_darkZ rows hm, e_darkZ rows hm, e_darkZ rows hm, e_darkZ rows hm, add1_t (by omega), add1_t (by omega), sub1_t (by omega), sub1_t (by omega), n_t (by omega), n_t (by omega), dz_p1, dz_m1, dz_q1, dz_n1]
theorem sum4 (a b c d : Bool) : ((if a then (1 : Int32) else 0) + (if b then 1 else 0) + (if c then 1 else 0) + (if d then 1 else 0) ≤ 0) ↔ (b || (a || (d || c))) = false := by
  cases a <;> cases b <;> cases c <;> cases d <;> decide
theorem and01 (a b : Bool) : ((if a then (1 : Int32) else 0) &&& (if b then 1 else 0)) = nI (if a && b then 1 else 0) := by
  cases a <;> cases b <;> rfl
theorem qt_both {rows : IA} {a b : Nat} (ha : a < 4) (hb : b < 4) (w : Int32) {Q : Int32 → Prop} (hQ : Q (bothF (dk (mg rows a)) (dk (mg rows b)) w)) : wp_Md_bothBy rows (nI a) (nI b) w Q := by
  unfold wp_Md_bothBy
  refine lp (fun n i (s : Int32 × Int32 × Int32 × Int32) => wl_Md_bothBy_15 rows (nI a) (nI b) (wx_Md_bothBy_181 w Q) n (nI i) s.1 s.2.1 s.2.2.1 s.2.2.2) (fun i s => s.1 = p01 (tchP (dk (mg rows a)) (dk (mg rows b)) i) ∧ s.2.1 = nI (fb_ct (fun c => dk (mg rows a) (c % 16) (c / 16) && dk (mg rows b) (c % 16) (c / 16)) i) ∧ s.2.2.1 = p01 (inP (dk (mg rows a)) (dk (mg rows b)) i) ∧ s.2.2.2 = p01 (likeP (dk (mg rows a)) (dk (mg rows b)) i)) 256 (0, 0, 1, 1) ⟨?_, rfl, ?_, ?_⟩ (fun n s h => ?_) (fun n i s hi h ih => ?_)
  · exact (p01_f (fun ⟨c, hc, _⟩ => by omega)).symm
  · exact (p01_t (fun c hc => by omega)).symm
  · exact (p01_t (fun c hc => by omega)).symm
  · obtain ⟨s1, s2, s3, s4⟩ := s
    obtain ⟨h1, h2, h3, h4⟩ := h
    simp only at h1 h2 h3 h4
    show wl_Md_bothBy_15 rows (nI a) (nI b) (wx_Md_bothBy_181 w Q) (n + 1) (nI 256) s1 s2 s3 s4
    rw [wl_Md_bothBy_15]
    refine ⟨fun _ => ?_, fun q => absurd le256 q⟩
    unfold wx_Md_bothBy_181
    unfold bothF at hQ
    have tail : ∀ P : Prop, Q (p01 P) → ((p01 P = 0 → Q 0) ∧ (¬ p01 P = 0 → Q 1)) := by
      intro P hP
      by_cases z : P
      · rw [p01_t z] at hP ⊢
        exact ⟨fun q => absurd q (by decide), fun _ => hP⟩
      · rw [p01_f z] at hP ⊢
        exact ⟨fun _ => hP, fun q => absurd rfl q⟩
    refine ⟨fun q => ?_, fun q => ⟨fun q1 => ?_, fun q1 => ⟨fun q2 => ?_, fun q2 => ?_⟩⟩⟩
    · rw [if_pos q] at hQ; rw [h2]; exact hQ
    · rw [if_neg q, if_pos q1] at hQ; rw [h4]; exact tail _ hQ
    · rw [if_neg q, if_neg q1, if_pos q2] at hQ; rw [h3]; exact tail _ hQ
    · rw [if_neg q, if_neg q1, if_neg q2] at hQ; rw [h1]; exact tail _ hQ
  · obtain ⟨s1, s2, s3, s4⟩ := s
    obtain ⟨h1, h2, h3, h4⟩ := h
    simp only at h1 h2 h3 h4
    show wl_Md_bothBy_15 rows (nI a) (nI b) (wx_Md_bothBy_181 w Q) (n + 1) (nI i) s1 s2 s3 s4
    rw [wl_Md_bothBy_15]
    refine ⟨fun q => absurd q (ge256 hi), fun _ x9 e9 x10 e10 => ?_⟩
    rw [r16d hi] at e9
    rw [d16d hi] at e10
    subst e9; subst e10
    rw [e_darkN rows ha (by omega) (by omega), e_darkN rows hb (by omega) (by omega)]
    obtain ⟨p, hp⟩ : ∃ p, p = dk (mg rows a) (i % 16) (i / 16) := ⟨_, rfl⟩
    obtain ⟨r, hr⟩ : ∃ r, r = dk (mg rows b) (i % 16) (i / 16) := ⟨_, rfl⟩
    rw [← hp, ← hr]
    have eL : ∀ t1, t1 = p01 (likeP (dk (mg rows a)) (dk (mg rows b)) (i + 1)) → wj_Md_bothBy_76 rows (nI b) (nI i) s1 s2 s3 (wl_Md_bothBy_15 rows (nI a) (nI b) (wx_Md_bothBy_181 w Q) n) (nI (i % 16)) (nI (i / 16)) (if p then 1 else 0) (if r then 1 else 0) t1 := by
      intro t1 et1
      have eI : ∀ t2, t2 = p01 (inP (dk (mg rows a)) (dk (mg rows b)) (i + 1)) → wj_Md_bothBy_95 rows (nI b) (nI i) s1 s2 (wl_Md_bothBy_15 rows (nI a) (nI b) (wx_Md_bothBy_181 w Q) n) (nI (i % 16)) (nI (i / 16)) (if p then 1 else 0) (if r then 1 else 0) t1 t2 := by
        intro t2 et2
        unfold wj_Md_bothBy_95
        intro x6 e6
        rw [and01, h2, nI_add] at e6
        have e6' : x6 = nI (fb_ct (fun c => dk (mg rows a) (c % 16) (c / 16) && dk (mg rows b) (c % 16) (c / 16)) (i + 1)) := by
          rw [e6, fb_ct_succ, hp, hr]
        dsimp only [jn]
        have go : ∀ t3, t3 = p01 (tchP (dk (mg rows a)) (dk (mg rows b)) (i + 1)) → wl_Md_bothBy_15 rows (nI a) (nI b) (wx_Md_bothBy_181 w Q) n (nI i + 1) t3 x6 t2 t1 := by
          intro t3 et3
          rw [nI_1]
          exact ih (t3, x6, t2, t1) ⟨et3, e6', et2, et1⟩
        refine ⟨fun q => ?_, fun q => ?_⟩
        · rw [h1, p01_0] at q
          refine ⟨fun q2 => ?_, fun q2 => ?_⟩
          · have pt : p = true := by
              cases p
              · exact absurd q2 (by decide)
              · rfl
            rw [e_nb4 rows hb (by omega) (by omega), sum4]
            refine ⟨fun q3 => go 0 ?_, fun q3 => go 1 ?_⟩
            · symm
              apply p01_f
              rintro ⟨c, hc, w1, w2⟩
              by_cases z : c = i
              · subst z
                have : nb (dk (mg rows b)) (c % 16) (c / 16) = false := q3
                rw [this] at w2
                cases w2
              · exact q ⟨c, by omega, w1, w2⟩
            · symm
              apply p01_t
              refine ⟨i, by omega, by rw [← hp]; exact pt, ?_⟩
              show (_ || (_ || (_ || _))) = true
              exact b_nf q3
          · refine go 0 ?_
            symm
            apply p01_f
            rintro ⟨c, hc, w1, w2⟩
            by_cases z : c = i
            · subst z
              rw [← hp] at w1
              rw [w1] at q2
              exact q2 rfl
            · exact q ⟨c, by omega, w1, w2⟩
        · rw [h1, p01_0] at q
          refine go 1 ?_
          symm
          apply p01_t
          obtain ⟨c, hc, w1, w2⟩ := Classical.byContradiction q
          exact ⟨c, by omega, w1, w2⟩
      unfold wj_Md_bothBy_76
      dsimp only [jn]
      refine ⟨fun q => eI 0 ?_, fun q => ⟨fun q2 => eI 0 ?_, fun q2 => eI 1 ?_⟩⟩
      · rw [h3, p01_0] at q
        exact (p01_f (fun z => q (fun c hc => z c (by omega)))).symm
      · refine (p01_f (fun z => ?_)).symm
        have z2 := z i (by omega)
        rw [← hp, ← hr] at z2
        cases p
        · cases r
          · exact absurd q2 (by decide)
          · exact absurd q2 (by decide)
        · rw [z2 rfl] at q2
          exact absurd q2 (by decide)
      · rw [h3, p01_0] at q
        have q := Classical.byContradiction q
        refine (p01_t (fun c hc hd => ?_)).symm
        by_cases z : c = i
        · subst z
          rw [← hp] at hd
          rw [← hr]
          subst hd
          cases r
          · exact absurd (by decide) q2
          · rfl
        · exact q c (by omega) hd
    dsimp only [jn]
    refine ⟨fun q => eL 0 ?_, fun q => ⟨fun q2 => eL 1 ?_, fun q2 => eL 0 ?_⟩⟩
    · rw [h4, p01_0] at q
      exact (p01_f (fun z => q (fun c hc => z c (by omega)))).symm
    · rw [h4, p01_0] at q
      have q := Classical.byContradiction q
      refine (p01_t (fun c hc => ?_)).symm
      by_cases z : c = i
      · subst z
        rw [← hp, ← hr]
        cases p <;> cases r
        · rfl
        · exact absurd q2 (by decide)
        · exact absurd q2 (by decide)
        · rfl
      · exact q c (by omega)
    · refine (p01_f (fun z => q2 ?_)).symm
      have z2 := z i (by omega)
      rw [← hp, ← hr] at z2
      rw [z2]
theorem like_rows {f g : IA} (hf : g16 f) (hg : g16 g) : (∀ y, y < 16 → f y = g y) ↔ likeP (dk f) (dk g) 256 := by
  constructor
  · intro h c hc
    rw [dk_eq h]
  · intro h y hy
    refine r_ext (hf y hy) (hg y hy) (fun x hx => ?_)
    have := h (16 * y + x) (by omega)
    rw [show (16 * y + x) % 16 = x by omega, show (16 * y + x) / 16 = y by omega, dk_in hx hy, dk_in hx hy] at this
    exact this
theorem ct_sub {p q : Nat → Bool} : ∀ n, fb_ct (fun c => p c && q c) n = fb_ct p n ↔ ∀ c, c < n → p c = true → q c = true := by
  intro n
  induction n with
  | zero => exact ⟨fun _ c hc => by omega, fun _ => rfl⟩
  | succ n ih =>
    rw [fb_ct_succ, fb_ct_succ]
    have le : fb_ct (fun c => p c && q c) n ≤ fb_ct p n := fb_ct_sub (fun k _ h => by
      cases hp : p k
      · rw [hp] at h; exact absurd h (by simp)
      · rfl)
    constructor
    · intro h c hc hpc
      by_cases z : c = n
      · subst z
        rw [hpc] at h
        cases hq : q c
        · rw [hq] at h; simp at h; omega
        · rfl
      · refine ih.mp ?_ c (by omega) hpc
        cases hp : p n <;> cases hq : q n <;> rw [hp, hq] at h <;> simp at h <;> omega
    · intro h
      have e := ih.mpr (fun c hc hp => h c (by omega) hp)
      rw [e]
      cases hp : p n
      · rfl
      · rw [h n (by omega) hp]; rfl
theorem qs_both {mk : Nat → IA} {a b : Nat} (ha : a < 4) (hb : b < 4) (ga : g16 (mk a)) (gb : g16 (mk b)) {w : Int32} (hw : vp_in w 4) {Q : Int32 → Prop} (hQ : Q (bothF (dk (mk a)) (dk (mk b)) w)) : wp_Qm_both mk (nI a) (nI b) w Q := by
  have h1 : vp_in (nI a) 4 := vp_in_nI ha (by omega)
  have h2 : vp_in (nI b) 4 := vp_in_nI hb (by omega)
  simp only [wp_Qm_both, e_isMask, e_w4, br1, br0, h1, h2, hw, not_true_eq_false, not_false_eq_true, true_implies, false_implies, and_true, true_and]
  rw [clN (by omega), clN (by omega)]
  unfold bothF at hQ
  refine ⟨fun q => ?_, fun q => ⟨fun q1 => ?_, fun q1 => ⟨fun q2 => ?_, fun q2 => ?_⟩⟩⟩
  · rw [if_neg (by rw [q]; decide), if_pos q] at hQ
    refine s_same (fun h => ?_) (fun h => ?_)
    · rw [p01_t ((like_rows ga gb).mp h)] at hQ
      rw [br1]; exact hQ
    · rw [p01_f (fun z => by
        obtain ⟨y, hy, ny⟩ := h
        exact ny ((like_rows ga gb).mpr z y hy))] at hQ
      rw [br0]; exact hQ
  · rw [if_neg (by rw [q1]; decide), if_neg q, if_pos q1] at hQ
    refine s_darkCellsIn ga (s_darkCells ga ?_)
    have key : nI (ctg (fun x y => dk (mk a) x y && dk (mk b) x y)) = nI (ctg (dk (mk a))) ↔ inP (dk (mk a)) (dk (mk b)) 256 := by
      have l1 : ctg (fun x y => dk (mk a) x y && dk (mk b) x y) ≤ 256 := fb_ct_le _ _
      have l2 : ctg (dk (mk a)) ≤ 256 := fb_ct_le _ _
      rw [nI_eq (by omega) (by omega)]
      exact ct_sub (p := fun c => dk (mk a) (c % 16) (c / 16)) (q := fun c => dk (mk b) (c % 16) (c / 16)) 256
    refine ⟨fun z => ?_, fun z => ?_⟩
    · rw [p01_t (key.mp z)] at hQ; exact hQ
    · rw [p01_f (fun y => z (key.mpr y))] at hQ; exact hQ
  · rw [if_pos q2] at hQ
    exact s_darkCellsIn ga hQ
  · rw [if_neg q2, if_neg q, if_neg q1] at hQ
    have tl : ∀ P : Prop, Q (p01 P) → ∀ r : Int32, r = p01 P → ((r = 0 → Q 0) ∧ (¬ r = 0 → Q 1)) := by
      intro P hP r er
      by_cases z : P
      · rw [p01_t z] at hP er
        subst er
        exact ⟨fun q => absurd q (by decide), fun _ => hP⟩
      · rw [p01_f z] at hP er
        subst er
        exact ⟨fun _ => hP, fun q => absurd rfl q⟩
    unfold wp_Gr_touches
    have rowP : ∀ i, i < 16 → (mk a i &&& nbr (mk b) i = 0 ↔ ∀ x, x < 16 → ¬ (dk (mk a) x i = true ∧ nb (dk (mk b)) x i = true)) := by
      intro i hi
      constructor
      · intro z x hx ⟨z1, z2⟩
        have e : bt (mk a i &&& nbr (mk b) i) x = bt 0 x := by rw [z]
        rw [b_and, b_0, nbr_bt gb hx hi, z2, ← dk_in hx hi, z1] at e
        exact absurd e (by decide)
      · intro z
        refine r_ext (r16_and _ (ga i hi)) r16_0 (fun x hx => ?_)
        rw [b_and, b_0, nbr_bt gb hx hi, ← dk_in hx hi]
        have := z x hx
        cases hA : dk (mk a) x i
        · rfl
        · cases hB : nb (dk (mk b)) x i
          · rfl
          · exact absurd ⟨hA, hB⟩ this
    refine lp (fun n i (_ : Unit) => wl_Gr_touches_2 (mk a) (mk b) (fun r_8 => (r_8 = 0 → (Q 0)) ∧ (¬ r_8 = 0 → (Q 1))) n (nI i)) (fun i _ => ∀ y, y < i → ∀ x, x < 16 → ¬ (dk (mk a) x y = true ∧ nb (dk (mk b)) x y = true)) 16 () (fun y hy => by omega) (fun n _ h => ?_) (fun n i _ hi h ih => ?_)
    · rw [wl_Gr_touches_2]
      refine ⟨fun _ => tl _ hQ _ (p01_f ?_).symm, fun z => absurd le16 z⟩
      rintro ⟨c, hc, w1, w2⟩
      exact h (c / 16) (by omega) (c % 16) (by omega) ⟨w1, w2⟩
    · rw [wl_Gr_touches_2]
      refine ⟨fun z => absurd z (ge16 hi), fun _ => ⟨in16 hi, ?_⟩⟩
      refine s_nbr hi ?_
      rw [clN (by omega), nI_1, rowP i hi]
      refine ⟨fun z => ih () (fun y hy x hx => ?_), fun z => tl _ hQ _ (p01_t ?_).symm⟩
      · by_cases e : y = i
        · subst e; exact z x hx
        · exact h y (by omega) x hx
      · refine Classical.byContradiction (fun u => z (fun x hx ⟨w1, w2⟩ => u ⟨16 * i + x, by omega, ?_, ?_⟩))
        · rw [show (16 * i + x) % 16 = x by omega, show (16 * i + x) / 16 = i by omega]; exact w1
        · rw [show (16 * i + x) % 16 = x by omega, show (16 * i + x) / 16 = i by omega]; exact w2
