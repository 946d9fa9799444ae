/-! Borders, holes, one part picked. -/
def borderF (d : Nat → Nat → Bool) : Int32 := nI (fb_sm (fun c => if dc d c then sides d c else 0) 256)
theorem t_borderOf {rows : IA} {m : Nat} (hm : m < 4) {Q : Int32 → Prop} (hQ : Q (borderF (dk (mg rows m)))) : wp_Md_borderOf rows (nI m) Q := by
  unfold wp_Md_borderOf
  refine lp (fun n i (s : Int32) => wl_Md_borderOf_4 rows (nI m) Q n (nI i) s) (fun i s => s = nI (fb_sm (fun c => if dc (dk (mg rows m)) c then sides (dk (mg rows m)) c else 0) i)) 256 0 rfl (fun n s h => ?_) (fun n i s hi h ih => ?_)
  · rw [wl_Md_borderOf_4]
    subst h
    exact ⟨fun _ => hQ, fun q => absurd le256 q⟩
  · rw [wl_Md_borderOf_4]
    refine ⟨fun q => absurd q (ge256 hi), fun _ => t_borderAt hm hi (fun v ev => ?_)⟩
    rw [nI_1]
    refine ih _ ?_
    rw [ev, h, nI_add, fb_sm_succ]
def pB (d : Nat → Nat → Bool) (x y : Nat) : Bool := d x y && (decide (1 ≤ x) && d (x - 1) y)
def pC (d : Nat → Nat → Bool) (x y : Nat) : Bool := d x y && d x (y + 1)
def pA (d : Nat → Nat → Bool) (x y : Nat) : Bool := d x y && d (x + 1) y
def pD (d : Nat → Nat → Bool) (x y : Nat) : Bool := d x y && (decide (1 ≤ y) && d x (y - 1))
theorem bd_pt (d : Nat → Nat → Bool) {c : Nat} (hc : c < 256) : (if dc d c then sides d c else 0) + (if pA d (c % 16) (c / 16) then 1 else 0) + (if pB d (c % 16) (c / 16) then 1 else 0) + (if pC d (c % 16) (c / 16) then 1 else 0) + (if pD d (c % 16) (c / 16) then 1 else 0) = 4 * (if d (c % 16) (c / 16) then 1 else 0) := by
  rw [dc_in hc]
  unfold sides pA pB pC pD
  have e1 : decide (0 < c % 16) = decide (1 ≤ c % 16) := rfl
  have e2 : decide (0 < c / 16) = decide (1 ≤ c / 16) := rfl
  rw [e1, e2]
  generalize (decide (1 ≤ c % 16) && d (c % 16 - 1) (c / 16)) = b1
  generalize (decide (1 ≤ c / 16) && d (c % 16) (c / 16 - 1)) = b2
  generalize d (c % 16 + 1) (c / 16) = b3
  generalize d (c % 16) (c / 16 + 1) = b4
  generalize d (c % 16) (c / 16) = b5
  cases b1 <;> cases b2 <;> cases b3 <;> cases b4 <;> cases b5 <;> rfl
theorem bd_n (d : Nat → Nat → Bool) : ∀ n, n ≤ 256 → fb_sm (fun c => if dc d c then sides d c else 0) n + fb_ct (fun c => pA d (c % 16) (c / 16)) n + fb_ct (fun c => pB d (c % 16) (c / 16)) n + fb_ct (fun c => pC d (c % 16) (c / 16)) n + fb_ct (fun c => pD d (c % 16) (c / 16)) n = 4 * fb_ct (fun c => d (c % 16) (c / 16)) n
  | 0, _ => rfl
  | n + 1, h => by
    have ih := bd_n d n (by omega)
    have hp := bd_pt d (show n < 256 by omega)
    rw [fb_sm_succ, fb_ct_succ, fb_ct_succ, fb_ct_succ, fb_ct_succ, fb_ct_succ]
    omega
theorem ct_AB {d : Nat → Nat → Bool} (hd : ∀ x y, ¬ (x < 16 ∧ y < 16) → d x y = false) : ctg (pA d) = ctg (pB d) := by
  rw [ct_grid, ct_grid]
  apply fb_sm_cong
  intro y hy
  have e1 : fb_ct (fun x => pA d x y) 16 = fb_ct (fun x => pA d x y) 15 := by
    rw [show (16 : Nat) = 15 + 1 from rfl, fb_ct_succ]
    have : pA d 15 y = false := by
      unfold pA
      rw [hd (15 + 1) y (by omega), Bool.and_false]
    rw [this]; rfl
  have e2 : fb_ct (fun x => pB d x y) 16 = fb_ct (fun x => pB d (1 + x) y) 15 := by
    rw [show (16 : Nat) = 1 + 15 from rfl, fb_ct_split]
    have : fb_ct (fun x => pB d x y) 1 = 0 := by
      rw [show (1 : Nat) = 0 + 1 from rfl, fb_ct_succ]
      have : pB d 0 y = false := by
        unfold pB
        rw [decide_eq_false (by omega), Bool.false_and, Bool.and_false]
      rw [this]; rfl
    rw [this, Nat.zero_add]
  rw [e1, e2]
  apply fb_ct_cong
  intro x hx
  unfold pA pB
  rw [decide_eq_true (show 1 ≤ 1 + x by omega), Bool.true_and, Nat.add_comm 1 x, Nat.add_sub_cancel, Bool.and_comm]
theorem ct_CD {d : Nat → Nat → Bool} (hd : ∀ x y, ¬ (x < 16 ∧ y < 16) → d x y = false) : ctg (pC d) = ctg (pD d) := by
  rw [ct_grid, ct_grid]
  have z : ∀ p : Nat → Bool, (∀ x, x < 16 → p x = false) → fb_ct p 16 = 0 := fun p h => fb_ct_zero.mpr h
  have e1 : fb_sm (fun y => fb_ct (fun x => pC d x y) 16) 16 = fb_sm (fun y => fb_ct (fun x => pC d x y) 16) 15 := by
    rw [show fb_sm (fun y => fb_ct (fun x => pC d x y) 16) 16 = fb_sm (fun y => fb_ct (fun x => pC d x y) 16) 15 + fb_ct (fun x => pC d x 15) 16 from rfl, z (fun x => pC d x 15) (fun x hx => by
      unfold pC
      rw [hd x (15 + 1) (by omega), Bool.and_false]), Nat.add_zero]
  have e2 : fb_sm (fun y => fb_ct (fun x => pD d x y) 16) 16 = fb_sm (fun y => fb_ct (fun x => pD d x (1 + y)) 16) 15 := by
    rw [show fb_sm (fun y => fb_ct (fun x => pD d x y) 16) 16 = fb_sm (fun y => fb_ct (fun x => pD d x y) 16) (1 + 15) from rfl, fb_sm_split]
    rw [show fb_sm (fun y => fb_ct (fun x => pD d x y) 16) 1 = 0 + fb_ct (fun x => pD d x 0) 16 from rfl, z (fun x => pD d x 0) (fun x hx => by
      unfold pD
      rw [decide_eq_false (by omega), Bool.false_and, Bool.and_false]), Nat.add_zero, Nat.zero_add]
  rw [e1, e2]
  apply fb_sm_cong
  intro y hy
  apply fb_ct_cong
  intro x hx
  unfold pC pD
  rw [decide_eq_true (show 1 ≤ 1 + y by omega), Bool.true_and, Nat.add_comm 1 y, Nat.add_sub_cancel, Bool.and_comm]
theorem bd_sum {d : Nat → Nat → Bool} (hd : ∀ x y, ¬ (x < 16 ∧ y < 16) → d x y = false) : fb_sm (fun c => if dc d c then sides d c else 0) 256 + 2 * fb_sm (fun y => fb_ct (fun x => pB d x y) 16 + fb_ct (fun x => pC d x y) 16) 16 = 4 * ctg d := by
  have h1 := bd_n d 256 (Nat.le_refl _)
  have h2 := ct_AB hd
  have h3 := ct_CD hd
  have h4 := ct_grid (pB d)
  have h5 := ct_grid (pC d)
  rw [fb_sm_add]
  unfold ctg at h2 h3 h4 h5 ⊢
  omega
theorem s_border {f : IA} (hf : g16 f) {Q : Int32 → Prop} (hQ : Q (borderF (dk f))) : wp_Gr_border f Q := by
  unfold wp_Gr_border
  have hd : ∀ x y, ¬ (x < 16 ∧ y < 16) → dk f x y = false := fun x y h => dk_out h
  refine lp (fun n i (s : Int32) => wl_Gr_border_4 f (wx_Gr_border_57 f Q) n (nI i) s) (fun i s => s = nI (fb_sm (fun y => fb_ct (fun x => pB (dk f) x y) 16 + fb_ct (fun x => pC (dk f) x y) 16) i)) 16 0 rfl (fun n s h => ?_) (fun n i s hi h ih => ?_)
  · rw [wl_Gr_border_4]
    refine ⟨fun _ => ?_, fun q => absurd le16 q⟩
    unfold wx_Gr_border_57
    refine s_darkCells hf ?_
    have e := bd_sum hd
    rw [h, show (4 : Int32) = nI 4 from rfl, show (2 : Int32) = nI 2 from rfl, pk_mul, pk_mul, pk_sub (by omega)]
    unfold borderF at hQ
    rw [show 4 * ctg (dk f) - 2 * fb_sm (fun y => fb_ct (fun x => pB (dk f) x y) 16 + fb_ct (fun x => pC (dk f) x y) 16) 16 = fb_sm (fun c => if dc (dk f) c then sides (dk f) c else 0) 256 by omega]
    exact hQ
  · rw [wl_Gr_border_4]
    refine ⟨fun q => absurd q (ge16 hi), fun _ => ⟨in16 hi, in16 hi, ?_⟩⟩
    rw [clN (by omega)]
    refine s_bitCount (r16_and _ (hf i hi)) (fun v ev => ⟨in16 hi, ?_⟩)
    have eB : fb_ct (bt (f i &&& jshl (f i) 1)) 16 = fb_ct (fun x => pB (dk f) x i) 16 := by
      apply fb_ct_cong
      intro x hx
      unfold pB
      rw [b_and, show jshl (f i) 1 = jshl (f i) (nI 1) from rfl, j_shl 1 (by omega) _ (by omega), dk_in hx hi, dk_in (by omega) hi]
    have fin : ∀ r : Int32, fb_ct (bt (f i &&& r)) 16 = fb_ct (fun x => pC (dk f) x i) 16 → wp_In_bitCount (f i &&& r) (fun r_4 => ∀ x1_4 : Int32, x1_4 = (v + r_4) → ((wl_Gr_border_4 f (wx_Gr_border_57 f Q) n) (nI i + 1) x1_4)) := by
      intro r er
      refine s_bitCount (r16_and _ (hf i hi)) (fun v2 ev2 => ?_)
      rw [nI_1]
      refine ih _ ?_
      rw [ev2, ev, h, eB, er, nI_add, nI_add, fb_sm_succ, Nat.add_assoc]
    rw [e_row, nI_1]
    refine ⟨fun q => ?_, fun q => ?_⟩
    · rw [vinN (by omega)] at q
      rw [clN (by omega), ← nI_1]
      refine fin _ ?_
      apply fb_ct_cong
      intro x hx
      unfold pC
      rw [b_and, dk_in hx hi, dk_in hx q]
    · rw [vinN (by omega)] at q
      rw [← nI_1]
      refine fin _ ?_
      apply fb_ct_cong
      intro x hx
      unfold pC
      rw [b_and, b_0, hd x (i + 1) (by omega), Bool.and_false, Bool.and_false]
/-! holes -/
def noEdge (c : Nat) : Prop := 0 < c % 16 ∧ c % 16 < 15 ∧ 0 < c / 16 ∧ c / 16 < 15
def holeP (d : Nat → Nat → Bool) (k i : Nat) : Prop := ∀ c, c < i → labC d c = nI k → noEdge c
noncomputable def hsum (d : Nat → Nat → Bool) : Nat → Int32
  | 0 => 0
  | k + 1 => hsum d k + p01 (holeP d k 256)
noncomputable def holesF (d : Nat → Nat → Bool) : Int32 := hsum (dl d) (partsN (dl d))
theorem e_figure (F : IA) {n k w : Nat} (hn : n ≤ 128) (hk : k < n) (hw : w < 6) (Q : Int32 → Prop) : wp_Pa_figure F (nI n) (nI k) (nI w) Q ↔ Q (F (6 * k + w)) := by
  unfold wp_Pa_figure
  have e : nI k * 6 + nI w = nI (6 * k + w) := by
    rw [show (6 : Int32) = nI 6 from rfl, pk_mul, nI_add, Nat.mul_comm]
  rw [e_within _ _ (by omega), brA (vp_in_nI hk (by omega)), br1, e_w6, brA (vp_in_nI hw (by omega)), br1, e, clN (by omega)]
  exact ⟨fun h => h.2, fun h => ⟨vp_in_nI (by omega) (by omega), h⟩⟩
theorem s_holes {d : Nat → Nat → Bool} {L F : IA} {P : Int32} (hF : PF d L F P) {Q : Int32 → Prop} (hQ : Q (hsum d (partsN d))) : wp_Pa_partsOffTheEdge F P Q := by
  unfold wp_Pa_partsOffTheEdge
  obtain ⟨f1, f2, f3, f4, f5, f6⟩ := hF
  subst f1
  obtain ⟨n, en⟩ : ∃ n, n = partsN d := ⟨_, rfl⟩
  rw [← en] at f2 f6 hQ ⊢
  refine lp (fun t k (s : Int32) => wl_Pa_partsOffTheEdge_4 F (nI n) Q t (nI k) s) (fun k s => s = hsum d k) n 0 rfl (fun t s h => ?_) (fun t k s hk h ih => ?_)
  · rw [wl_Pa_partsOffTheEdge_4]
    subst h
    exact ⟨fun _ => hQ, fun q => absurd (nI_le (Nat.le_refl n) (by omega)) q⟩
  · rw [wl_Pa_partsOffTheEdge_4]
    refine ⟨fun q => absurd q (nI_ge hk (by omega)), fun _ => ?_⟩
    obtain ⟨⟨c1, a1, a2, a3, a4⟩, ⟨c2, b1, b2, b3, b4⟩, ⟨c3, g1, g2, g3, g4⟩, ⟨c4, k1, k2, k3, k4⟩⟩ := f6 k hk
    dsimp only at a3 a4 b3 b4 g3 g4 k3 k4
    have go : ∀ v : Int32, v = p01 (holeP d k 256) → wl_Pa_partsOffTheEdge_4 F (nI n) Q t (nI k + 1) (s + v) := by
      intro v ev
      rw [nI_1]
      refine ih _ ?_
      rw [h, ev]; rfl
    have go0 : ¬ holeP d k 256 → wl_Pa_partsOffTheEdge_4 F (nI n) Q t (nI k + 1) s := by
      intro hn
      have := go 0 (p01_f hn).symm
      rw [Int32.add_zero] at this
      exact this
    have t2 : ∀ t1 : Int32, (¬ t1 = 0 → 0 < c1 % 16 ∧ 0 < c2 / 16) → (t1 = 0 → ¬ holeP d k 256) → wj_Pa_partsOffTheEdge_35 F (nI n) (nI k) s (wl_Pa_partsOffTheEdge_4 F (nI n) Q t) t1 := by
      intro t1 h1 h0
      unfold wj_Pa_partsOffTheEdge_35
      rw [show (4 : Int32) = nI 4 from rfl, e_figure F f2 hk (by omega), g3]
      dsimp only [jn]
      have fail : ¬ holeP d k 256 → wj_Pa_partsOffTheEdge_63 (nI k) s (wl_Pa_partsOffTheEdge_4 F (nI n) Q t) t1 0 := by
        intro hn
        unfold wj_Pa_partsOffTheEdge_63
        dsimp only [jn]
        exact ⟨fun _ => go0 hn, fun _ => ⟨fun _ => go0 hn, fun q => absurd rfl q⟩⟩
      refine ⟨fun q => fail (fun hh => ?_), fun q => ?_⟩
      · have := (nI_leI (a := 15) (b := c3 % 16) (by omega) (by omega)).mp q
        have z := hh c3 g1 g2
        unfold noEdge at z
        omega
      · rw [show (5 : Int32) = nI 5 from rfl, e_figure F f2 hk (by omega), k3]
        refine ⟨fun q2 => fail (fun hh => ?_), fun q2 => ?_⟩
        · have := (nI_leI (a := 15) (b := c4 / 16) (by omega) (by omega)).mp q2
          have z := hh c4 k1 k2
          unfold noEdge at z
          omega
        · unfold wj_Pa_partsOffTheEdge_63
          dsimp only [jn]
          refine ⟨fun z => go0 (h0 z), fun z => ⟨fun z2 => absurd z2 (by decide), fun _ => ?_⟩⟩
          refine go 1 (p01_t (fun c hc hl => ?_)).symm
          have y1 := a4 c hc hl
          have y2 := b4 c hc hl
          have y3 := g4 c hc hl
          have y4 := k4 c hc hl
          have u1 := h1 z
          have u3 : ¬ 15 ≤ c3 % 16 := fun y => q ((nI_leI (a := 15) (by omega) (by omega)).mpr y)
          have u4 : ¬ 15 ≤ c4 / 16 := fun y => q2 ((nI_leI (a := 15) (by omega) (by omega)).mpr y)
          unfold noEdge
          omega
    rw [show (2 : Int32) = nI 2 from rfl, e_figure F f2 hk (by omega), a3]
    dsimp only [jn]
    refine ⟨fun q => t2 0 (fun z => absurd rfl z) (fun _ hh => ?_), fun q => ?_⟩
    · have z := hh c1 a1 a2
      have := (nI_leI (a := c1 % 16) (b := 0) (by omega) (by omega)).mp q
      unfold noEdge at z
      omega
    · rw [show (3 : Int32) = nI 3 from rfl, e_figure F f2 hk (by omega), b3]
      refine ⟨fun q2 => t2 0 (fun z => absurd rfl z) (fun _ hh => ?_), fun q2 => t2 1 (fun _ => ?_) (fun z => absurd z (by decide))⟩
      · have z := hh c2 b1 b2
        have := (nI_leI (a := c2 / 16) (b := 0) (by omega) (by omega)).mp q2
        unfold noEdge at z
        omega
      · have u1 : ¬ c1 % 16 ≤ 0 := fun y => q ((nI_leI (b := 0) (by omega) (by omega)).mpr y)
        have u2 : ¬ c2 / 16 ≤ 0 := fun y => q2 ((nI_leI (b := 0) (by omega) (by omega)).mpr y)
        omega
theorem t_holeIn {d : Nat → Nat → Bool} {lab : IA} {k : Nat} (hl : ∀ c, c < 256 → lab c = labC d c) {K : Int32 → Int32 → Prop} (hK : K (nI 256) (p01 (holeP d k 256))) : ∃ t, wl_Md_holesOf_24 lab (nI k) K t 0 1 := by
  refine lp (fun t i (s : Int32) => wl_Md_holesOf_24 lab (nI k) K t (nI i) s) (fun i s => s = p01 (holeP d k i)) 256 1 (p01_t (fun c hc => by omega)).symm (fun t s h => ?_) (fun t i s hi h ih => ?_)
  · rw [wl_Md_holesOf_24]
    subst h
    exact ⟨fun _ => hK, fun q => absurd le256 q⟩
  · rw [wl_Md_holesOf_24]
    refine ⟨fun q => absurd q (ge256 hi), fun _ => ?_⟩
    have tail : ∀ t2 : Int32, (t2 = 0 ↔ noEdge i) → wj_Md_holesOf_70 lab (nI k) (nI i) s (wl_Md_holesOf_24 lab (nI k) K t) t2 := by
      intro t2 ht
      unfold wj_Md_holesOf_70
      dsimp only [jn]
      rw [clN (by omega), hl i hi, nI_1, h, p01_0]
      refine ⟨fun q => ih _ (p01_f (fun w => q (fun c hc => w c (by omega)))).symm, fun q => ⟨vp_in_nI hi (by omega), fun e => ⟨fun z => ?_, fun z => ?_⟩, fun e => ?_⟩⟩
      · have q := Classical.byContradiction q
        refine ih _ (p01_t (fun c hc hlc => ?_)).symm
        by_cases y : c = i
        · subst y; exact ht.mp z
        · exact q c (by omega) hlc
      · exact ih _ (p01_f (fun w => z (ht.mpr (w i (by omega) e)))).symm
      · have q := Classical.byContradiction q
        refine ih _ (p01_t (fun c hc hlc => ?_)).symm
        by_cases y : c = i
        · subst y; exact absurd hlc e
        · exact q c (by omega) hlc
    dsimp only [jn]
    rw [r16d hi]
    have bad : ∀ t2 : Int32, t2 = 1 → ¬ noEdge i → wj_Md_holesOf_70 lab (nI k) (nI i) s (wl_Md_holesOf_24 lab (nI k) K t) t2 := by
      intro t2 e hne
      subst e
      exact tail 1 ⟨fun z => absurd z (by decide), fun z => absurd z hne⟩
    refine ⟨fun q => bad 1 rfl ?_, fun q => ⟨fun q1 => bad 1 rfl ?_, fun q1 => ⟨fun q2 => bad 1 rfl ?_, fun q2 => ⟨fun q3 => tail 0 ⟨fun _ => ?_, fun _ => rfl⟩, fun q3 => bad 1 rfl ?_⟩⟩⟩⟩
    · have := (nI_eq (a := i % 16) (b := 0) (by omega) (by omega)).mp q
      unfold noEdge; omega
    · have := (nI_eq (a := i % 16) (b := 15) (by omega) (by omega)).mp q1
      unfold noEdge; omega
    · have := (nI_ltI (a := i) (b := 16) (by omega) (by omega)).mp q2
      unfold noEdge; omega
    · have a1 : ¬ i % 16 = 0 := fun z => q ((nI_eq (a := i % 16) (b := 0) (by omega) (by omega)).mpr z)
      have a2 : ¬ i % 16 = 15 := fun z => q1 ((nI_eq (a := i % 16) (b := 15) (by omega) (by omega)).mpr z)
      have a3 : ¬ i < 16 := fun z => q2 ((nI_ltI (a := i) (b := 16) (by omega) (by omega)).mpr z)
      have a4 := (nI_leI (a := i) (b := 239) (by omega) (by omega)).mp q3
      unfold noEdge; omega
    · have a4 : ¬ i ≤ 239 := fun z => q3 ((nI_leI (a := i) (b := 239) (by omega) (by omega)).mpr z)
      unfold noEdge; omega
theorem t_holes {rows label pile : IA} {m : Nat} (hm : m < 4) {Q : Int32 → IA → IA → Int32 → Prop} (hQ : ∀ a b c, Q (holesF (dk (mg rows m))) a b c) : wp_Md_holesOf rows label pile (nI m) Q := by
  unfold wp_Md_holesOf
  refine t_labL hm (fun lab pile' hl hn _ => ?_)
  unfold holesF at hQ
  obtain ⟨d, ed⟩ : ∃ d, d = dl (dk (mg rows m)) := ⟨_, rfl⟩
  rw [← ed] at hl hn hQ ⊢
  obtain ⟨n, en⟩ : ∃ n, n = partsN d := ⟨_, rfl⟩
  rw [← en] at hn hQ ⊢
  refine lp (fun t k (s : Int32) => wl_Md_holesOf_10 Q lab pile' (nI n) t (nI k) s) (fun k s => s = hsum d k) n 0 rfl (fun t s h => ?_) (fun t k s hk h ih => ?_)
  · rw [wl_Md_holesOf_10]
    subst h
    exact ⟨fun _ => hQ _ _ _, fun q => absurd (nI_le (Nat.le_refl n) (by omega)) q⟩
  · rw [wl_Md_holesOf_10]
    refine ⟨fun q => absurd q (nI_ge hk (by omega)), fun _ => t_holeIn hl ?_⟩
    unfold wx_Md_holesOf_106
    dsimp only [jn]
    have go : ∀ v : Int32, v = p01 (holeP d k 256) → wj_Md_holesOf_117 (nI k) s (wl_Md_holesOf_10 Q lab pile' (nI n) t) v := by
      intro v ev
      unfold wj_Md_holesOf_117
      intro v2 ev2
      rw [nI_1]
      refine ih _ ?_
      rw [ev2, h, ev]; rfl
    by_cases q : holeP d k 256
    · have e := p01_t q
      rw [e]
      exact ⟨fun z => absurd z (by decide), fun _ => go 1 e.symm⟩
    · have e := p01_f q
      rw [e]
      exact ⟨fun _ => go 0 e.symm, fun z => absurd rfl z⟩
noncomputable def allF (d : Nat → Nat → Bool) (w : Int32) : Int32 := if w = 0 then nI (partsN d) else if w = 1 then borderF d else if w = 2 then holesF d else nI (ctg d)
theorem qs_all {sp dS dL dR dF lS lL lR lF : IA} {dP lP : Int32} {mk : Nat → IA} {m : Nat} {w : Int32} (hP : PartsOK dS dL dF dP) (hL : PartsOK lS lL lF lP) (hm : m < 4) (hg : g16 (mk m)) (hw : vp_in w 4) {Q : Int32 → IA → IA → IA → IA → IA → Int32 → IA → IA → IA → IA → Int32 → Prop}
    (hQ : ∀ sp' S L R F P S2 L2 R2 F2 P2, PartsOK S L F P → PartsOK S2 L2 F2 P2 → Q (allF (dk (mk m)) w) sp' S L R F P S2 L2 R2 F2 P2) : wp_Qm_all sp dS dL dR dF dP lS lL lR lF lP mk (nI m) w Q := by
  have h1 : vp_in (nI m) 4 := vp_in_nI hm (by omega)
  unfold wp_Qm_all
  rw [e_isMask, brA h1, br1, e_w4, brA hw, br1, clN (by omega)]
  unfold allF at hQ
  refine ⟨fun q => ⟨h1, s_paF hP hg (fun S L R F P h hf => ?_)⟩, fun q => ⟨fun q1 => ⟨h1, s_border hg ?_⟩, fun q1 => ⟨fun q2 => ⟨h1, s_over (fun f' hf' => ?_)⟩, fun q2 => ⟨h1, s_darkCells hg ?_⟩⟩⟩⟩
  · rw [if_pos q] at hQ
    rw [hf.1] at h ⊢
    exact hQ _ _ _ _ _ _ _ _ _ _ _ h hL
  · rw [if_neg q, if_pos q1] at hQ
    exact hQ _ _ _ _ _ _ _ _ _ _ _ hP hL
  · rw [if_neg q, if_neg q1, if_pos q2] at hQ
    have gf : g16 f' := fun y hy => by rw [hf' y hy]; exact r16_xor (hg y hy) r16_full
    refine s_paF hL gf (fun S L R F P h hf => ?_)
    rw [dk_over hf'] at hf
    exact s_holes hf (hQ _ _ _ _ _ _ _ _ _ _ _ hP h)
  · rw [if_neg q, if_neg q1, if_neg q2] at hQ
    exact hQ _ _ _ _ _ _ _ _ _ _ _ hP hL
theorem qt_all {rows label pile : IA} {parts : Int32} {m : Nat} {w : Int32} (hm : m < 4) {Q : Int32 → IA → IA → Int32 → Prop} (hQ : ∀ a b c, Q (allF (dk (mg rows m)) w) a b c) : wp_Md_allBy rows label pile parts (nI m) w Q := by
  unfold wp_Md_allBy
  unfold allF at hQ
  refine ⟨fun q => ?_, fun q => ⟨fun q1 => ?_, fun q1 => ⟨fun q2 => ?_, fun q2 => ?_⟩⟩⟩
  · rw [if_pos q] at hQ
    unfold wp_Md_partsOf
    exact t_labF hm (fun lab pile' _ _ _ => hQ _ _ _)
  · rw [if_neg q, if_pos q1] at hQ
    exact t_borderOf hm (hQ _ _ _)
  · rw [if_neg q, if_neg q1, if_pos q2] at hQ
    exact t_holes hm hQ
  · rw [if_neg q, if_neg q1, if_neg q2] at hQ
    exact t_darkOf rows hm (hQ _ _ _)
/-! one part picked -/
theorem s_rowOf {L : IA} {v : Int32} {y : Nat} (hy : y < 16) {Q : Int32 → Prop} (hQ : ∀ r, r16 r → (∀ x, x < 16 → bt r x = decide (L (16 * y + x) = v)) → Q r) : wp_Pa_rowOfPart L v (nI y) Q := by
  unfold wp_Pa_rowOfPart
  refine lp (fun n j (s : Int32) => wl_Pa_rowOfPart_5 L v (nI y) Q n (nI j) s) (fun j s => ∀ X, X < 32 → bt s X = (decide (X < j) && decide (L (16 * y + X) = v))) 16 0 (fun X _ => by rw [b_0, decide_eq_false (by omega), Bool.false_and]) (fun n s h => ?_) (fun n j s hj h ih => ?_)
  · rw [wl_Pa_rowOfPart_5]
    refine ⟨fun _ => hQ s (fun i hi => ?_) (fun x hx => ?_), fun q => absurd le16 q⟩
    · rcases Nat.lt_or_ge i 32 with q | q
      · rw [h i q, decide_eq_false (by omega), Bool.false_and]
      · exact b_big q
    · rw [h x (by omega), decide_eq_true hx, Bool.true_and]
  · rw [wl_Pa_rowOfPart_5]
    refine ⟨fun q => absurd q (ge16 hj), fun _ => ?_⟩
    rw [e_labelAt L hj hy]
    dsimp only [jn]
    rw [nI_1]
    refine ⟨fun q v2 ev2 => ih _ (fun X hX => ?_), fun q => ih _ (fun X hX => ?_)⟩
    · rw [ev2, b_or, h X hX, b_one j (by omega) hX]
      by_cases z : X = j
      · subst z
        rw [decide_eq_true q, decide_eq_true (show X < X + 1 by omega), decide_eq_true (show X = X from rfl), Bool.or_true]; rfl
      · rw [decide_eq_false z, Bool.or_false]
        by_cases y2 : X < j
        · rw [decide_eq_true y2, decide_eq_true (show X < j + 1 by omega)]
        · rw [decide_eq_false y2, decide_eq_false (show ¬ X < j + 1 by omega)]
    · rw [h X hX]
      by_cases z : X = j
      · subst z
        rw [decide_eq_false q, Bool.and_false, Bool.and_false]
      · by_cases y2 : X < j
        · rw [decide_eq_true y2, decide_eq_true (show X < j + 1 by omega)]
        · rw [decide_eq_false y2, decide_eq_false (show ¬ X < j + 1 by omega)]
theorem s_pickL {L md : IA} {v : Int32} {K : Int32 → IA → Prop} (hK : ∀ f' : IA, rowsS f' (fun X Y => decide (L (16 * Y + X) = v)) → K (nI 16) f') : ∃ k, wl_Qm_pick_62 L v K k 0 md := by
  refine lp (fun n i (s : IA) => wl_Qm_pick_62 L v K n (nI i) s) (fun i s => ∀ y, y < i → r16 (s y) ∧ ∀ x, x < 16 → bt (s y) x = decide (L (16 * y + x) = v)) 16 md (fun y hy => by omega) (fun n s h => ?_) (fun n i s hi h ih => ?_)
  · rw [wl_Qm_pick_62]
    exact ⟨fun _ => hK s ⟨fun y hy => (h y hy).1, fun y hy x hx => (h y hy).2 x hx⟩, fun q => absurd le16 q⟩
  · rw [wl_Qm_pick_62]
    refine ⟨fun q => absurd q (ge16 hi), fun _ => s_rowOf hi (fun r hr hb => ?_)⟩
    rw [e_setRow, clN (by omega), nI_1, m16 hr]
    refine ⟨fun _ => ih _ (fun y hy => ?_), fun q => absurd (in16 hi) q⟩
    by_cases q : y = i
    · subst q; rw [pk_us]; exact ⟨hr, hb⟩
    · rw [pk_un q]; exact h y (by omega)
theorem t_pickL {lab fresh : IA} {x y : Nat} (hx : x < 16) (hy : y < 16) (hf : rowsS fresh (fun _ _ => false)) {K : Int32 → IA → Prop} (hK : ∀ f' : IA, rowsS f' (fun X Y => decide (lab (16 * Y + X) = lab (16 * y + x))) → K (nI 256) f') : ∃ k, wl_Md_pick_52 (nI x) (nI y) lab K k 0 fresh := by
  refine lp (fun n i (s : IA) => wl_Md_pick_52 (nI x) (nI y) lab K n (nI i) s) (fun i s => cellsI (fun X Y => decide (lab (16 * Y + X) = lab (16 * y + x))) (fun _ _ => false) i s) 256 fresh (cells_0 hf) (fun n s hs => ?_) (fun n i s hi hs ih => ?_)
  · rw [wl_Md_pick_52]
    exact ⟨fun _ => hK s (cells_e hs), fun q => absurd le256 q⟩
  · rw [wl_Md_pick_52]
    have ec : (16 : Int32) * nI y + nI x = nI (16 * y + x) := by
      rw [show (16 : Int32) = nI 16 from rfl, pk_mul, nI_add]
    refine ⟨fun q => absurd q (ge256 hi), fun _ => ?_⟩
    rw [ec, clN (by omega), clN (by omega)]
    refine ⟨vp_in_nI hi (by omega), vp_in_nI (by omega) (by omega), ?_⟩
    have hc := cells_s hi hs
    have e0 : 16 * (i / 16) + i % 16 = i := by omega
    rw [e0] at hc
    have fin : ∀ b : Bool, decide (lab i = lab (16 * y + x)) = b → wj_Md_pick_97 (nI i) s (wl_Md_pick_52 (nI x) (nI y) lab K n) (if b then 1 else 0) := by
      intro b hb
      unfold wj_Md_pick_97
      rw [r16d hi, d16d hi, e_sets s (by omega) (by omega), nI_1, ← hb]
      exact ih _ hc
    dsimp only [jn]
    exact ⟨fun q => fin true (decide_eq_true q), fun q => fin false (decide_eq_false q)⟩
