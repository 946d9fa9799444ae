/-! Parts: what is answered. -/
noncomputable def labF (d : Nat → Nat → Bool) : IA × Nat := @Classical.epsilon (IA × Nat) ⟨(fun _ => 0, 0)⟩ (fun z => IsLab (dc d) z.1 z.2 ∧ z.2 ≤ 128)
noncomputable def partsN (d : Nat → Nat → Bool) : Nat := (labF d).2
noncomputable def labC (d : Nat → Nat → Bool) (c : Nat) : Int32 := (labF d).1 c
theorem labF_eq {d : Nat → Nat → Bool} {L : IA} {n : Nat} (h : IsLab (dc d) L n) (hn : n ≤ 128) : n = partsN d ∧ ∀ c, c < 256 → L c = labC d c := by
  have hs : IsLab (dc d) (labF d).1 (labF d).2 ∧ (labF d).2 ≤ 128 := @Classical.epsilon_spec_aux (IA × Nat) ⟨(fun _ => 0, 0)⟩ (fun z => IsLab (dc d) z.1 z.2 ∧ z.2 ≤ 128) ⟨(L, n), h, hn⟩
  exact lab_one h hs.1 hn hs.2
noncomputable def leF (P : Nat → Prop) (g : Nat → Nat) : Int32 := Classical.epsilon (isLeast P g)
noncomputable def moF (P : Nat → Prop) (g : Nat → Nat) : Int32 := Classical.epsilon (isMost P g)
theorem leF_eq {P : Nat → Prop} {g : Nat → Nat} {v : Int32} (h : isLeast P g v) : v = leF P g := by
  have h2 : isLeast P g (leF P g) := Classical.epsilon_spec ⟨v, h⟩
  obtain ⟨c, a1, a2, a3, a4⟩ := h
  obtain ⟨c', b1, b2, b3, b4⟩ := h2
  have e1 := a4 c' b1 b2
  have e2 := b4 c a1 a2
  rw [a3, b3, show g c = g c' by omega]
theorem moF_eq {P : Nat → Prop} {g : Nat → Nat} {v : Int32} (h : isMost P g v) : v = moF P g := by
  have h2 : isMost P g (moF P g) := Classical.epsilon_spec ⟨v, h⟩
  obtain ⟨c, a1, a2, a3, a4⟩ := h
  obtain ⟨c', b1, b2, b3, b4⟩ := h2
  have e1 := a4 c' b1 b2
  have e2 := b4 c a1 a2
  rw [a3, b3, show g c = g c' by omega]
noncomputable def figF (d : Nat → Nat → Bool) (k w : Nat) : Int32 :=
  if w = 0 then nI (fb_ct (fun c => decide (labC d c = nI k)) 256) else if w = 1 then nI (fb_sm (fun c => if labC d c = nI k then sides d c else 0) 256) else
  if w = 2 then leF (fun c => labC d c = nI k) (fun c => c % 16) else if w = 3 then leF (fun c => labC d c = nI k) (fun c => c / 16) else
  if w = 4 then moF (fun c => labC d c = nI k) (fun c => c % 16) else moF (fun c => labC d c = nI k) (fun c => c / 16)
theorem le_congr {L L' : IA} {k : Int32} {g : Nat → Nat} {v : Int32} (e : ∀ c, c < 256 → L c = L' c) (h : isLeast (fun c => L c = k) g v) : isLeast (fun c => L' c = k) g v := by
  obtain ⟨c, a1, a2, a3, a4⟩ := h
  exact ⟨c, a1, (e c a1).symm.trans a2, a3, fun c' hc' h' => a4 c' hc' ((e c' hc').trans h')⟩
theorem mo_congr {L L' : IA} {k : Int32} {g : Nat → Nat} {v : Int32} (e : ∀ c, c < 256 → L c = L' c) (h : isMost (fun c => L c = k) g v) : isMost (fun c => L' c = k) g v := by
  obtain ⟨c, a1, a2, a3, a4⟩ := h
  exact ⟨c, a1, (e c a1).symm.trans a2, a3, fun c' hc' h' => a4 c' hc' ((e c' hc').trans h')⟩
/-- what the table of parts holds -/
def PF (d : Nat → Nat → Bool) (L F : IA) (P : Int32) : Prop := P = nI (partsN d) ∧ partsN d ≤ 128 ∧ (∀ c, c < 256 → L c = labC d c) ∧ (∀ k, k < partsN d → ∀ w, w < 6 → F (6 * k + w) = figF d k w) ∧ IsLab (dc d) (labC d) (partsN d) ∧
  (∀ k, k < partsN d → isLeast (fun c => labC d c = nI k) (fun c => c % 16) (F (6 * k + 2)) ∧ isLeast (fun c => labC d c = nI k) (fun c => c / 16) (F (6 * k + 3)) ∧ isMost (fun c => labC d c = nI k) (fun c => c % 16) (F (6 * k + 4)) ∧ isMost (fun c => labC d c = nI k) (fun c => c / 16) (F (6 * k + 5)))
theorem lab_ext {p : Nat → Bool} {L L' : IA} {n : Nat} (e : ∀ c, c < 256 → L c = L' c) (h : IsLab p L n) : IsLab p L' n := by
  obtain ⟨h1, h2, h3, h4, h5⟩ := h
  refine ⟨fun c hc hp => by rw [← e c hc]; exact h1 c hc hp, fun c hc hp => by rw [← e c hc]; exact h2 c hc hp, fun c c' hc hc' hp hp' => by rw [← e c hc, ← e c' hc']; exact h3 c c' hc hc' hp hp', fun c k hc hk hl j hj => ?_, fun k hk => ?_⟩
  · obtain ⟨c', a, b⟩ := h4 c k hc hk (by rw [e c hc]; exact hl) j hj
    exact ⟨c', a, by rw [← e c' (by omega)]; exact b⟩
  · obtain ⟨c, a, b⟩ := h5 k hk
    exact ⟨c, a, by rw [← e c a]; exact b⟩
theorem parts_pf {S L F : IA} {P : Int32} {d : Nat → Nat → Bool} (h : PartsOK S L F P) (e : dk S = d) : PF d L F P := by
  obtain ⟨_, n, hn, hP, hL, hF⟩ := h
  rw [e] at hL hF
  obtain ⟨e1, e2⟩ := labF_eq hL hn
  subst e1
  refine ⟨hP, hn, e2, fun k hk w hw => ?_, lab_ext e2 hL, fun k hk => ?_⟩
  · obtain ⟨u1, u2, u3, u4, u5, u6⟩ := hF k hk
    unfold figF
    have : w = 0 ∨ w = 1 ∨ w = 2 ∨ w = 3 ∨ w = 4 ∨ w = 5 := by omega
    rcases this with z | z | z | z | z | z
    · subst z
      rw [if_pos rfl]
      show F (6 * k) = _
      rw [u1]
      refine congrArg nI (fb_ct_cong (fun c hc => ?_))
      rw [e2 c hc]
    · subst z
      rw [if_neg (by decide), if_pos rfl, u2]
      refine congrArg nI (fb_sm_cong (fun c hc => ?_))
      rw [e2 c hc]
    · subst z
      rw [if_neg (by decide), if_neg (by decide), if_pos rfl]
      exact leF_eq (le_congr e2 u3)
    · subst z
      rw [if_neg (by decide), if_neg (by decide), if_neg (by decide), if_pos rfl]
      exact leF_eq (le_congr e2 u4)
    · subst z
      rw [if_neg (by decide), if_neg (by decide), if_neg (by decide), if_neg (by decide), if_pos rfl]
      exact moF_eq (mo_congr e2 u5)
    · subst z
      rw [if_neg (by decide), if_neg (by decide), if_neg (by decide), if_neg (by decide), if_neg (by decide)]
      exact moF_eq (mo_congr e2 u6)
  · obtain ⟨u1, u2, u3, u4, u5, u6⟩ := hF k hk
    exact ⟨le_congr e2 u3, le_congr e2 u4, mo_congr e2 u5, mo_congr e2 u6⟩
theorem s_paF {dS dL dR dF o : IA} {dP : Int32} (hP : PartsOK dS dL dF dP) (ho : g16 o) {Q : IA → IA → IA → IA → Int32 → Prop} (hQ : ∀ S L R F P, PartsOK S L F P → PF (dk o) L F P → Q S L R F P) : wp_Pa_look dS dL dR dF dP o Q :=
  s_paLook hP ho (fun S L R F P h e => hQ S L R F P h (parts_pf h e))
theorem t_labF {rows label pile : IA} {m : Nat} (hm : m < 4) {Q : IA → IA → Int32 → Prop} (hQ : ∀ lab pile, (∀ c, c < 256 → lab c = labC (dk (mg rows m)) c) → partsN (dk (mg rows m)) ≤ 128 → IsLab (dc (dk (mg rows m))) (labC (dk (mg rows m))) (partsN (dk (mg rows m))) → Q lab pile (nI (partsN (dk (mg rows m))))) : wp_Md_labels rows label pile (nI m) 1 Q := by
  refine t_labels (b := true) hm (fun lab pile n hn hl => ?_)
  have hl2 : IsLab (dc (dk (mg rows m))) lab n := lab_congr (fun c hc => by
    rw [pb_in hc, dc_in hc]
    cases dk (mg rows m) (c % 16) (c / 16) <;> rfl) hl
  obtain ⟨e1, e2⟩ := labF_eq hl2 hn
  subst e1
  exact hQ lab pile e2 hn (lab_ext e2 hl2)
/-- the light cells -/
def dl (d : Nat → Nat → Bool) : Nat → Nat → Bool := fun x y => decide (x < 16) && (decide (y < 16) && !d x y)
theorem t_labL {rows label pile : IA} {m : Nat} (hm : m < 4) {Q : IA → IA → Int32 → Prop} (hQ : ∀ lab pile, (∀ c, c < 256 → lab c = labC (dl (dk (mg rows m))) c) → partsN (dl (dk (mg rows m))) ≤ 128 → IsLab (dc (dl (dk (mg rows m)))) (labC (dl (dk (mg rows m)))) (partsN (dl (dk (mg rows m)))) → Q lab pile (nI (partsN (dl (dk (mg rows m)))))) : wp_Md_labels rows label pile (nI m) 0 Q := by
  refine t_labels (b := false) hm (fun lab pile n hn hl => ?_)
  have hl2 : IsLab (dc (dl (dk (mg rows m)))) lab n := lab_congr (fun c hc => by
    rw [pb_in hc, dc_in hc]
    unfold dl
    rw [decide_eq_true (show c % 16 < 16 by omega), decide_eq_true (show c / 16 < 16 by omega)]
    cases dk (mg rows m) (c % 16) (c / 16) <;> rfl) hl
  obtain ⟨e1, e2⟩ := labF_eq hl2 hn
  subst e1
  exact hQ lab pile e2 hn (lab_ext e2 hl2)
theorem dk_over {f g : IA} (h : ∀ y, y < 16 → f y = g y ^^^ 65535) : dk f = dl (dk g) := by
  funext x y
  unfold dl
  by_cases hx : x < 16
  · by_cases hy : y < 16
    · rw [dk_in hx hy, dk_in hx hy, h y hy, b_xor, b_65535, decide_eq_true hx, decide_eq_true hy]
      cases bt (g y) x <;> rfl
    · rw [dk_out (by omega), decide_eq_false hy]; cases decide (x < 16) <;> rfl
  · rw [dk_out (by omega), decide_eq_false hx]; rfl
/-! labels, parts -/
theorem qs_label {dS dL dR dF : IA} {dP : Int32} {mk : Nat → IA} {m x y : Nat} (hP : PartsOK dS dL dF dP) (hm : m < 4) (hg : g16 (mk m)) (hx : x < 16) (hy : y < 16) {Q : Int32 → IA → IA → IA → IA → Int32 → Prop} (hQ : ∀ S L R F P, PartsOK S L F P → Q (labC (dk (mk m)) (16 * y + x)) S L R F P) : wp_Qm_label dS dL dR dF dP mk (nI m) (nI x) (nI y) Q := by
  have h1 : vp_in (nI m) 4 := vp_in_nI hm (by omega)
  unfold wp_Qm_label
  rw [e_isMask, brA h1, br1, e_isCell, brA ⟨in16 hx, in16 hy⟩, br1, clN (by omega)]
  refine ⟨h1, s_paF hP hg (fun S L R F P h hf => ?_)⟩
  rw [e_labelAt L hx hy, hf.2.2.1 _ (by omega)]
  exact hQ S L R F P h
noncomputable def partF (d : Nat → Nat → Bool) (k : Int32) (w : Nat) : Int32 := if 0 ≤ k.toInt ∧ k.toInt < (partsN d : Int) then figF d k.toNatClampNeg w else (-2)
theorem qs_part {dS dL dR dF : IA} {dP : Int32} {mk : Nat → IA} {m w : Nat} {k : Int32} (hP : PartsOK dS dL dF dP) (hm : m < 4) (hg : g16 (mk m)) (hw : w < 6) {Q : Int32 → IA → IA → IA → IA → Int32 → Prop} (hQ : ∀ S L R F P, PartsOK S L F P → Q (partF (dk (mk m)) k w) S L R F P) : wp_Qm_part dS dL dR dF dP mk (nI m) k (nI w) Q := by
  have h1 : vp_in (nI m) 4 := vp_in_nI hm (by omega)
  have hw6 : vp_in (nI w) 6 := vp_in_nI hw (by omega)
  unfold wp_Qm_part
  rw [e_isMask, brA h1, br1, e_w6, brA hw6, br1, clN (by omega)]
  refine ⟨h1, s_paF hP hg (fun S L R F P h hf => ?_)⟩
  obtain ⟨f1, f2, f3, f4, f5, f6⟩ := hf
  have hq := hQ S L R F P h
  subst f1
  rw [e_within _ _ (by omega)]
  unfold partF at hq
  refine ⟨fun q => ?_, fun q => ?_⟩
  · rw [br1]
    have q2 := q
    rw [vin] at q2
    rw [if_pos q2] at hq
    obtain ⟨j, hj, rfl⟩ := vp_in_of q (by omega)
    unfold wp_Pa_figure
    have e : nI j * 6 + nI w = nI (6 * j + w) := by
      rw [show (6 : Int32) = nI 6 from rfl, pk_mul, nI_add, Nat.mul_comm]
    rw [e_within _ _ (by omega), brA q, br1, e_w6, brA hw6, br1, e, clN (by omega), f4 j hj w hw]
    rw [clN (by omega)] at hq
    exact ⟨vp_in_nI (by omega) (by omega), hq⟩
  · rw [br0]
    have q2 := q
    rw [vin] at q2
    rw [if_neg q2] at hq
    exact hq
theorem sub4 (a b c d : Bool) : ((((4 : Int32) - (if a then 1 else 0)) - (if b then 1 else 0)) - (if c then 1 else 0)) - (if d then 1 else 0) = nI ((if a then 0 else 1) + (if b then 0 else 1) + (if c then 0 else 1) + (if d then 0 else 1)) := by
  cases a <;> cases b <;> cases c <;> cases d <;> rfl
theorem t_borderAt {rows : IA} {m c : Nat} (hm : m < 4) (hc : c < 256) {Q : Int32 → Prop} (hQ : Q (nI (if dc (dk (mg rows m)) c then sides (dk (mg rows m)) c else 0))) : wp_Md_borderAt rows (nI m) (nI c) Q := by
  unfold wp_Md_borderAt
  rw [r16d hc, d16d hc]
  intro x ex y ey
  subst ex; subst ey
  rw [e_darkN rows hm (by omega) (by omega), ← dc_in (d := dk (mg rows m)) hc]
  cases hd : dc (dk (mg rows m)) c
  · rw [hd] at hQ
    exact ⟨fun _ => hQ, fun q => absurd rfl q⟩
  · rw [hd] at hQ
    refine ⟨fun q => absurd q (by decide), fun _ => ?_⟩
    rw [e_nb4 rows hm (show c % 16 < 16 by omega) (show c / 16 < 16 by omega), sub4]
    exact hQ
def minI (P : Nat → Prop) (g : Nat → Nat) (i : Nat) (v : Int32) : Prop := ((∀ c, c < i → ¬ P c) ∧ v = 16) ∨ ∃ c, c < i ∧ P c ∧ v = nI (g c) ∧ ∀ c', c' < i → P c' → g c ≤ g c'
def maxI (P : Nat → Prop) (g : Nat → Nat) (i : Nat) (v : Int32) : Prop := ((∀ c, c < i → ¬ P c) ∧ v = (-1)) ∨ ∃ c, c < i ∧ P c ∧ v = nI (g c) ∧ ∀ c', c' < i → P c' → g c' ≤ g c
theorem minI_n {P : Nat → Prop} {g : Nat → Nat} {i : Nat} {v : Int32} (h : minI P g i v) (hi : ¬ P i) : minI P g (i + 1) v := by
  rcases h with ⟨a, b⟩ | ⟨c, a, b, e, f⟩
  · refine Or.inl ⟨fun c hc => ?_, b⟩
    by_cases q : c = i
    · rw [q]; exact hi
    · exact a c (by omega)
  · refine Or.inr ⟨c, by omega, b, e, fun c' hc' hp => ?_⟩
    by_cases q : c' = i
    · subst q; exact absurd hp hi
    · exact f c' (by omega) hp
theorem maxI_n {P : Nat → Prop} {g : Nat → Nat} {i : Nat} {v : Int32} (h : maxI P g i v) (hi : ¬ P i) : maxI P g (i + 1) v := by
  rcases h with ⟨a, b⟩ | ⟨c, a, b, e, f⟩
  · refine Or.inl ⟨fun c hc => ?_, b⟩
    by_cases q : c = i
    · rw [q]; exact hi
    · exact a c (by omega)
  · refine Or.inr ⟨c, by omega, b, e, fun c' hc' hp => ?_⟩
    by_cases q : c' = i
    · subst q; exact absurd hp hi
    · exact f c' (by omega) hp
theorem minI_y {P : Nat → Prop} {g : Nat → Nat} {i : Nat} {v : Int32} (hg : ∀ c, c ≤ i → g c < 16) (h : minI P g i v) (hi : P i) {Q : Int32 → Prop} (hQ : ∀ v', minI P g (i + 1) v' → Q v') : wp_Md_lesser (nI (g i)) v Q := by
  have gi := hg i (Nat.le_refl i)
  rcases h with ⟨a, b⟩ | ⟨c, a, b, e, f⟩
  · subst b
    refine t_lesser (a := g i) (b := 16) (by omega) (by omega) (hQ _ (Or.inr ⟨i, by omega, hi, by rw [show min (g i) 16 = g i by omega], fun c' hc' hp => ?_⟩))
    by_cases q : c' = i
    · rw [q]; exact Nat.le_refl _
    · exact absurd hp (a c' (by omega))
  · have gc := hg c (by omega)
    subst e
    refine t_lesser (by omega) (by omega) (hQ _ ?_)
    by_cases q : g i ≤ g c
    · refine Or.inr ⟨i, by omega, hi, by rw [show min (g i) (g c) = g i by omega], fun c' hc' hp => ?_⟩
      by_cases z : c' = i
      · rw [z]; exact Nat.le_refl _
      · have := f c' (by omega) hp; omega
    · refine Or.inr ⟨c, by omega, b, by rw [show min (g i) (g c) = g c by omega], fun c' hc' hp => ?_⟩
      by_cases z : c' = i
      · rw [z]; omega
      · exact f c' (by omega) hp
theorem maxI_y {P : Nat → Prop} {g : Nat → Nat} {i : Nat} {v : Int32} (hg : ∀ c, c ≤ i → g c < 16) (h : maxI P g i v) (hi : P i) {Q : Int32 → Prop} (hQ : ∀ v', maxI P g (i + 1) v' → Q v') : wp_Md_greater (nI (g i)) v Q := by
  have gi := hg i (Nat.le_refl i)
  rcases h with ⟨a, b⟩ | ⟨c, a, b, e, f⟩
  · subst b
    unfold wp_Md_greater
    refine ⟨fun q => ?_, fun _ => hQ _ (Or.inr ⟨i, by omega, hi, rfl, fun c' hc' hp => ?_⟩)⟩
    · rw [i_le, n_t (by omega), i1z] at q
      omega
    · by_cases q : c' = i
      · rw [q]; exact Nat.le_refl _
      · exact absurd hp (a c' (by omega))
  · have gc := hg c (by omega)
    subst e
    refine t_greater (by omega) (by omega) (hQ _ ?_)
    by_cases q : g c ≤ g i
    · refine Or.inr ⟨i, by omega, hi, by rw [show max (g i) (g c) = g i by omega], fun c' hc' hp => ?_⟩
      by_cases z : c' = i
      · rw [z]; exact Nat.le_refl _
      · have := f c' (by omega) hp; omega
    · refine Or.inr ⟨c, by omega, b, by rw [show max (g i) (g c) = g c by omega], fun c' hc' hp => ?_⟩
      by_cases z : c' = i
      · rw [z]; omega
      · exact f c' (by omega) hp
theorem minI_e {P : Nat → Prop} {g : Nat → Nat} {v : Int32} (h : minI P g 256 v) (hc : ∃ c, c < 256 ∧ P c) : isLeast P g v := by
  rcases h with ⟨a, _⟩ | ⟨c, a, b, e, f⟩
  · obtain ⟨c, h1, h2⟩ := hc
    exact absurd h2 (a c h1)
  · exact ⟨c, a, b, e, f⟩
theorem maxI_e {P : Nat → Prop} {g : Nat → Nat} {v : Int32} (h : maxI P g 256 v) (hc : ∃ c, c < 256 ∧ P c) : isMost P g v := by
  rcases h with ⟨a, _⟩ | ⟨c, a, b, e, f⟩
  · obtain ⟨c, h1, h2⟩ := hc
    exact absurd h2 (a c h1)
  · exact ⟨c, a, b, e, f⟩
theorem t_partBy {rows lab : IA} {m k w : Nat} (hm : m < 4) (hw : w < 6) (hl : ∀ c, c < 256 → lab c = labC (dk (mg rows m)) c) (hn : partsN (dk (mg rows m)) ≤ 128) (hL : IsLab (dc (dk (mg rows m))) (labC (dk (mg rows m))) (partsN (dk (mg rows m)))) (hk : k < partsN (dk (mg rows m))) {Q : Int32 → Prop} (hQ : Q (figF (dk (mg rows m)) k w)) : wp_Md_partBy rows lab (nI m) (nI k) (nI w) Q := by
  unfold wp_Md_partBy
  obtain ⟨d, hd⟩ : ∃ d, d = dk (mg rows m) := ⟨_, rfl⟩
  rw [← hd] at hl hn hL hk hQ
  refine lp (fun n i (s : Int32 × Int32 × Int32 × Int32 × Int32 × Int32) => wl_Md_partBy_23 rows lab (nI m) (nI k) (wx_Md_partBy_111 (nI w) Q) n (nI i) s.1 s.2.1 s.2.2.1 s.2.2.2.1 s.2.2.2.2.1 s.2.2.2.2.2) (fun i s => maxI (fun c => labC d c = nI k) (fun c => c / 16) i s.1 ∧ maxI (fun c => labC d c = nI k) (fun c => c % 16) i s.2.1 ∧ minI (fun c => labC d c = nI k) (fun c => c / 16) i s.2.2.1 ∧ minI (fun c => labC d c = nI k) (fun c => c % 16) i s.2.2.2.1 ∧ s.2.2.2.2.1 = nI (fb_sm (fun c => if labC d c = nI k then sides d c else 0) i) ∧ s.2.2.2.2.2 = nI (fb_ct (fun c => decide (labC d c = nI k)) i)) 256 (-1, -1, 16, 16, 0, 0) ⟨Or.inl ⟨fun c hc => by omega, rfl⟩, Or.inl ⟨fun c hc => by omega, rfl⟩, Or.inl ⟨fun c hc => by omega, rfl⟩, Or.inl ⟨fun c hc => by omega, rfl⟩, rfl, rfl⟩ (fun n s h => ?_) (fun n i s hi h ih => ?_)
  · obtain ⟨s1, s2, s3, s4, s5, s6⟩ := s
    obtain ⟨h1, h2, h3, h4, h5, h6⟩ := h
    simp only at h1 h2 h3 h4 h5 h6
    show wl_Md_partBy_23 rows lab (nI m) (nI k) (wx_Md_partBy_111 (nI w) Q) (n + 1) (nI 256) s1 s2 s3 s4 s5 s6
    rw [wl_Md_partBy_23]
    refine ⟨fun _ => ?_, fun q => absurd le256 q⟩
    have hex := hL.2.2.2.2 k hk
    unfold wx_Md_partBy_111
    have fin : ∀ v : Int32, v = figF d k w → Q v := fun v e => by rw [e]; exact hQ
    unfold figF at fin
    have : w = 0 ∨ w = 1 ∨ w = 2 ∨ w = 3 ∨ w = 4 ∨ w = 5 := by omega
    rcases this with z | z | z | z | z | z
    · subst z
      rw [if_pos rfl] at fin
      exact ⟨fun _ => fin _ h6, fun q => absurd rfl q⟩
    · subst z
      rw [if_neg (by decide), if_pos rfl] at fin
      exact ⟨fun q => absurd q (by decide), fun _ => ⟨fun _ => fin _ h5, fun q => absurd rfl q⟩⟩
    · subst z
      rw [if_neg (by decide), if_neg (by decide), if_pos rfl] at fin
      exact ⟨fun q => absurd q (by decide), fun _ => ⟨fun q => absurd q (by decide), fun _ => ⟨fun _ => fin _ (leF_eq (minI_e h4 hex)), fun q => absurd rfl q⟩⟩⟩
    · subst z
      rw [if_neg (by decide), if_neg (by decide), if_neg (by decide), if_pos rfl] at fin
      exact ⟨fun q => absurd q (by decide), fun _ => ⟨fun q => absurd q (by decide), fun _ => ⟨fun q => absurd q (by decide), fun _ => ⟨fun _ => fin _ (leF_eq (minI_e h3 hex)), fun q => absurd rfl q⟩⟩⟩⟩
    · subst z
      rw [if_neg (by decide), if_neg (by decide), if_neg (by decide), if_neg (by decide), if_pos rfl] at fin
      exact ⟨fun q => absurd q (by decide), fun _ => ⟨fun q => absurd q (by decide), fun _ => ⟨fun q => absurd q (by decide), fun _ => ⟨fun q => absurd q (by decide), fun _ => ⟨fun _ => fin _ (moF_eq (maxI_e h2 hex)), fun q => absurd rfl q⟩⟩⟩⟩⟩
    · subst z
      rw [if_neg (by decide), if_neg (by decide), if_neg (by decide), if_neg (by decide), if_neg (by decide)] at fin
      exact ⟨fun q => absurd q (by decide), fun _ => ⟨fun q => absurd q (by decide), fun _ => ⟨fun q => absurd q (by decide), fun _ => ⟨fun q => absurd q (by decide), fun _ => ⟨fun q => absurd q (by decide), fun _ => fin _ (moF_eq (maxI_e h1 hex))⟩⟩⟩⟩⟩
  · obtain ⟨s1, s2, s3, s4, s5, s6⟩ := s
    obtain ⟨h1, h2, h3, h4, h5, h6⟩ := h
    simp only at h1 h2 h3 h4 h5 h6
    show wl_Md_partBy_23 rows lab (nI m) (nI k) (wx_Md_partBy_111 (nI w) Q) (n + 1) (nI i) s1 s2 s3 s4 s5 s6
    rw [wl_Md_partBy_23]
    refine ⟨fun q => absurd q (ge256 hi), fun _ => ⟨vp_in_nI hi (by omega), ?_⟩⟩
    dsimp only [jn]
    rw [clN (by omega), r16d hi, d16d hi, hl i hi, nI_1]
    refine ⟨fun q => ?_, fun q => ?_⟩
    · have hp : dc (dk (mg rows m)) i = true := by rw [← hd]; exact lab_p hL hi (by omega) q
      refine t_borderAt hm hi ?_
      rw [hp, if_pos rfl, ← hd]
      intro v5 e5
      rw [h5, nI_add] at e5
      refine minI_y (g := fun c => c % 16) (fun c _ => by omega) h4 q (fun v4 w4 => minI_y (g := fun c => c / 16) (fun c _ => by omega) h3 q (fun v3 w3 => maxI_y (g := fun c => c % 16) (fun c _ => by omega) h2 q (fun v2 w2 => maxI_y (g := fun c => c / 16) (fun c _ => by omega) h1 q (fun v1 w1 => ?_))))
      refine ih (v1, v2, v3, v4, v5, s6 + 1) ⟨w1, w2, w3, w4, ?_, ?_⟩
      · show v5 = _
        rw [e5, fb_sm_succ, if_pos q]
      · show s6 + 1 = _
        rw [h6, nI_1, fb_ct_succ, decide_eq_true q]; rfl
    · refine ih (s1, s2, s3, s4, s5, s6) ⟨maxI_n h1 q, maxI_n h2 q, minI_n h3 q, minI_n h4 q, ?_, ?_⟩
      · show s5 = _
        rw [h5, fb_sm_succ, if_neg q, Nat.add_zero]
      · show s6 = _
        rw [h6, fb_ct_succ, decide_eq_false q]; rfl
theorem qt_part {rows label pile : IA} {m w : Nat} {k : Int32} (hm : m < 4) (hw : w < 6) {Q : Int32 → IA → IA → Int32 → Prop} (hQ : ∀ a b c, Q (partF (dk (mg rows m)) k w) a b c) : wp_Md_partOr rows label pile (nI m) k (nI w) Q := by
  unfold wp_Md_partOr
  refine t_labF hm (fun lab pile' hl hn hL => ?_)
  rw [f_inS _ (by omega)]
  unfold partF at hQ
  refine ⟨fun q => ?_, fun q => ?_⟩
  · have q2 := q
    rw [vin] at q2
    rw [if_pos q2] at hQ
    obtain ⟨j, hj, rfl⟩ := vp_in_of q (by omega)
    rw [clN (by omega)] at hQ
    rw [br1, f_i5, brA (vp_in_nI hw (by omega)), br1]
    exact t_partBy hm hw hl hn hL hj (hQ _ _ _)
  · have q2 := q
    rw [vin] at q2
    rw [if_neg q2] at hQ
    rw [br0]
    exact hQ _ _ _
