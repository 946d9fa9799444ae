/-! How far; bands. -/
def ab (a b : Nat) : Nat := if a ≤ b then b - a else a - b
theorem ab_comm (a b : Nat) : ab a b = ab b a := by unfold ab; by_cases h : a ≤ b <;> by_cases h2 : b ≤ a <;> simp [h, h2] <;> omega
def ds (x y X Y : Nat) : Nat := ab x X + ab y Y
/-- v is how far x, y is from the nearest dark cell -/
def isNear (d : Nat → Nat → Bool) (x y : Nat) (v : Int32) : Prop :=
  ((∀ X Y, X < 16 → Y < 16 → d X Y = false) ∧ v = (-1)) ∨ ∃ X Y, X < 16 ∧ Y < 16 ∧ d X Y = true ∧ v = nI (ds x y X Y) ∧ ∀ X' Y', X' < 16 → Y' < 16 → d X' Y' = true → ds x y X Y ≤ ds x y X' Y'
theorem ds_lt {x y X Y : Nat} (hx : x < 16) (hy : y < 16) (hX : X < 16) (hY : Y < 16) : ds x y X Y < 31 := by
  unfold ds ab
  by_cases h : x ≤ X <;> by_cases h2 : y ≤ Y <;> simp [h, h2] <;> omega
theorem near_one {d : Nat → Nat → Bool} {x y : Nat} {v w : Int32} (h1 : isNear d x y v) (h2 : isNear d x y w) : v = w := by
  rcases h1 with ⟨a, e⟩ | ⟨X, Y, hX, hY, hd, e, hm⟩
  · rcases h2 with ⟨a2, e2⟩ | ⟨X2, Y2, hX2, hY2, hd2, e2, hm2⟩
    · rw [e, e2]
    · rw [a X2 Y2 hX2 hY2] at hd2; cases hd2
  · rcases h2 with ⟨a2, e2⟩ | ⟨X2, Y2, hX2, hY2, hd2, e2, hm2⟩
    · rw [a2 X Y hX hY] at hd; cases hd
    · have b1 := hm X2 Y2 hX2 hY2 hd2
      have b2 := hm2 X Y hX hY hd
      rw [e, e2, show ds x y X Y = ds x y X2 Y2 by omega]
noncomputable def nearF (d : Nat → Nat → Bool) (x y : Nat) : Int32 := Classical.epsilon (isNear d x y)
theorem nearF_eq {d : Nat → Nat → Bool} {x y : Nat} {v : Int32} (h : isNear d x y v) : nearF d x y = v := near_one (Classical.epsilon_spec ⟨v, h⟩) h
theorem t_apart {a b : Nat} (ha : a < 65536) (hb : b < 65536) {Q : Int32 → Prop} (hQ : Q (nI (ab a b))) : wp_Md_apart (nI a) (nI b) Q := by
  unfold wp_Md_apart
  unfold ab at hQ
  refine ⟨fun h => ?_, fun h => ?_⟩
  · have h : b ≤ a := (nI_leI (by omega) (by omega)).mp h
    rw [pk_sub h]
    by_cases q : a ≤ b
    · rw [if_pos q, show b - a = a - b by omega] at hQ; exact hQ
    · rw [if_neg q] at hQ; exact hQ
  · have h : ¬ b ≤ a := fun q => h ((nI_leI (by omega) (by omega)).mpr q)
    rw [pk_sub (by omega)]
    rw [if_pos (by omega)] at hQ
    exact hQ
/-- the nearest among the first i cells -/
def nearI (d : Nat → Nat → Bool) (x y i : Nat) (v : Int32) : Prop :=
  ((∀ c, c < i → d (c % 16) (c / 16) = false) ∧ v = (-1)) ∨ ∃ c, c < i ∧ d (c % 16) (c / 16) = true ∧ v = nI (ds x y (c % 16) (c / 16)) ∧ ∀ c', c' < i → d (c' % 16) (c' / 16) = true → ds x y (c % 16) (c / 16) ≤ ds x y (c' % 16) (c' / 16)
theorem nearI_e {d : Nat → Nat → Bool} {x y : Nat} {v : Int32} (h : nearI d x y 256 v) : isNear d x y v := by
  have k : ∀ {P : Nat → Nat → Prop}, (∀ c, c < 256 → P (c % 16) (c / 16)) → ∀ X Y, X < 16 → Y < 16 → P X Y := by
    intro P hp X Y hX hY
    have := hp (16 * Y + X) (by omega)
    rw [show (16 * Y + X) % 16 = X by omega, show (16 * Y + X) / 16 = Y by omega] at this
    exact this
  rcases h with ⟨a, e⟩ | ⟨c, hc, hd, e, hm⟩
  · exact Or.inl ⟨k (P := fun X Y => d X Y = false) a, e⟩
  · exact Or.inr ⟨c % 16, c / 16, by omega, by omega, hd, e, k (P := fun X Y => d X Y = true → ds x y (c % 16) (c / 16) ≤ ds x y X Y) hm⟩
theorem t_nearOf {rows : IA} {m x y : Nat} (hm : m < 4) (hx : x < 16) (hy : y < 16) {Q : Int32 → Prop} (hQ : Q (nearF (dk (mg rows m)) x y)) : wp_Md_nearOf rows (nI m) (nI x) (nI y) Q := by
  refine lp (fun n i (s : Int32) => wl_Md_nearOf_6 rows (nI m) (nI x) (nI y) Q n (nI i) s) (fun i s => nearI (dk (mg rows m)) x y i s) 256 (-1) (Or.inl ⟨fun c hc => by omega, rfl⟩) (fun n s h => ?_) (fun n i s hi h ih => ?_)
  · rw [wl_Md_nearOf_6]
    rw [nearF_eq (nearI_e h)] at hQ
    exact ⟨fun _ => hQ, fun q => absurd le256 q⟩
  · rw [wl_Md_nearOf_6]
    refine ⟨fun q => absurd q (ge256 hi), fun _ => ?_⟩
    rw [r16d hi, d16d hi, nI_1]
    refine t_apart (by omega) (by omega) (t_apart (by omega) (by omega) ?_)
    intro v ev
    rw [nI_add] at ev
    have ev : v = nI (ds x y (i % 16) (i / 16)) := ev
    have hlt := ds_lt hx hy (show i % 16 < 16 by omega) (show i / 16 < 16 by omega)
    rw [e_darkN rows hm (by omega) (by omega)]
    dsimp only [jn]
    have keep : (dk (mg rows m) (i % 16) (i / 16) = true → ∃ c, c < i ∧ dk (mg rows m) (c % 16) (c / 16) = true ∧ s = nI (ds x y (c % 16) (c / 16)) ∧ (∀ c', c' < i → dk (mg rows m) (c' % 16) (c' / 16) = true → ds x y (c % 16) (c / 16) ≤ ds x y (c' % 16) (c' / 16)) ∧ ds x y (c % 16) (c / 16) ≤ ds x y (i % 16) (i / 16)) → wl_Md_nearOf_6 rows (nI m) (nI x) (nI y) Q n (nI (i + 1)) s := by
      intro w
      refine ih _ ?_
      cases hb : dk (mg rows m) (i % 16) (i / 16)
      · rcases h with ⟨a, e⟩ | ⟨c, hc, hd, e, hmn⟩
        · refine Or.inl ⟨fun c hc => ?_, e⟩
          by_cases q : c = i
          · subst q; exact hb
          · exact a c (by omega)
        · refine Or.inr ⟨c, by omega, hd, e, fun c' hc' hd' => ?_⟩
          by_cases q : c' = i
          · subst q; rw [hb] at hd'; cases hd'
          · exact hmn c' (by omega) hd'
      · obtain ⟨c, hc, hd, e, hmn, hle⟩ := w hb
        refine Or.inr ⟨c, by omega, hd, e, fun c' hc' hd' => ?_⟩
        by_cases q : c' = i
        · subst q; exact hle
        · exact hmn c' (by omega) hd'
    have take : dk (mg rows m) (i % 16) (i / 16) = true → (∀ c', c' < i → dk (mg rows m) (c' % 16) (c' / 16) = true → ds x y (i % 16) (i / 16) ≤ ds x y (c' % 16) (c' / 16)) → wl_Md_nearOf_6 rows (nI m) (nI x) (nI y) Q n (nI (i + 1)) v := by
      intro hb w
      refine ih _ (Or.inr ⟨i, by omega, hb, ev, fun c' hc' hd' => ?_⟩)
      by_cases q : c' = i
      · subst q; exact Nat.le_refl _
      · exact w c' (by omega) hd'
    cases hb : dk (mg rows m) (i % 16) (i / 16)
    · refine ⟨fun q => absurd q (by decide), fun _ => keep (fun z => by rw [hb] at z; cases z)⟩
    · refine ⟨fun _ => ?_, fun q => absurd rfl q⟩
      rcases h with ⟨a, e⟩ | ⟨c, hc, hd, e, hmn⟩
      · refine ⟨fun _ => take hb (fun c' hc' hd' => ?_), fun q => absurd e q⟩
        rw [a c' hc'] at hd'; cases hd'
      · have hc2 := ds_lt hx hy (show c % 16 < 16 by omega) (show c / 16 < 16 by omega)
        refine ⟨fun q => ?_, fun _ => ⟨fun q => keep (fun _ => ?_), fun q => take hb (fun c' hc' hd' => ?_)⟩⟩
        · exfalso
          rw [e] at q
          have q2 := congrArg Int32.toInt q
          rw [n_t (by omega)] at q2
          have : (-1 : Int32).toInt = -1 := rfl
          omega
        · rw [e, ev] at q
          exact ⟨c, hc, hd, e, hmn, (nI_leI (by omega) (by omega)).mp q⟩
        · rw [e, ev] at q
          have q : ¬ ds x y (c % 16) (c / 16) ≤ ds x y (i % 16) (i / 16) := fun z => q ((nI_leI (by omega) (by omega)).mpr z)
          have := hmn c' hc' hd'
          omega
/-! the class: a row's gap -/
theorem rbits {x g i : Nat} {r : Int32} (hx : x < 16) (hg : g < 15) (hi : i < 32) (hr : ∀ j, j < 32 → bt r j = decide (ab x j ≤ g)) : bt (r ||| (jshl r 1 ||| jush r 1)) i = decide (ab x i ≤ g + 1) := by
  rw [b_or, b_or, show jshl r 1 = jshl r (nI 1) from rfl, show jush r 1 = jush r (nI 1) from rfl, j_shl 1 (by omega) _ hi, j_ush 1 (by omega), hr i hi]
  have e1 : (decide (1 ≤ i) && bt r (i - 1)) = decide (1 ≤ i ∧ ab x (i - 1) ≤ g) := by
    by_cases q : 1 ≤ i
    · rw [hr _ (by omega)]; simp [q]
    · simp [q]
  have e2 : bt r (1 + i) = decide (ab x (1 + i) ≤ g) := by
    rcases Nat.lt_or_ge (1 + i) 32 with q | q
    · exact hr _ q
    · rw [b_big q]
      symm
      apply decide_eq_false
      unfold ab
      rw [if_pos (by omega)]
      omega
  rw [e1, e2]
  have : (ab x i ≤ g + 1) ↔ (ab x i ≤ g ∨ ((1 ≤ i ∧ ab x (i - 1) ≤ g) ∨ ab x (1 + i) ≤ g)) := by
    unfold ab
    by_cases h1 : x ≤ i <;> by_cases h2 : x ≤ i - 1 <;> by_cases h3 : x ≤ 1 + i <;> simp only [h1, h2, h3, if_true, if_false] <;> omega
  by_cases a1 : ab x i ≤ g <;> by_cases a2 : (1 ≤ i ∧ ab x (i - 1) ≤ g) <;> by_cases a3 : ab x (1 + i) ≤ g <;> simp only [a1, a2, a3, decide_true, decide_false, Bool.or_true, Bool.or_false, Bool.true_or, Bool.false_or, true_or, or_true, false_or, or_false, iff_true, iff_false] at this ⊢ <;> simp [this]
theorem nz_bit {r : Int32} (h : ¬ r = 0) : ∃ i, i < 32 ∧ bt r i = true := by
  apply Classical.byContradiction
  intro q
  apply h
  apply b_ext
  intro i hi
  rw [b_0]
  cases hb : bt r i
  · rfl
  · exact absurd ⟨i, hi, hb⟩ q
theorem s_gap {r : Int32} (hr : r16 r) {x : Nat} (hx : x < 16) {Q : Int32 → Prop} (h0 : (∀ i, i < 16 → bt r i = false) → Q (-1)) (h1 : ∀ i, i < 16 → bt r i = true → (∀ j, j < 16 → bt r j = true → ab x i ≤ ab x j) → Q (nI (ab x i))) : wp_Gr_gapInRow r (nI x) Q := by
  unfold wp_Gr_gapInRow
  intro v ev
  have hv : ∀ j, j < 32 → bt v j = decide (ab x j ≤ 0) := by
    intro j hj
    rw [ev, b_one x (by omega) hj]
    have : (j = x) ↔ (ab x j ≤ 0) := by unfold ab; by_cases q : x ≤ j <;> simp only [q, if_true, if_false] <;> omega
    by_cases q : j = x
    · rw [decide_eq_true q, decide_eq_true (this.mp q)]
    · rw [decide_eq_false q, decide_eq_false (fun z => q (this.mpr z))]
  refine lp (fun n g (s : Int32) => wl_Gr_gapInRow_6 r Q n (nI g) s) (fun g s => (g < 16 → ∀ j, j < 32 → bt s j = decide (ab x j ≤ g)) ∧ ∀ j, j < 16 → bt r j = true → g ≤ ab x j) 16 v ⟨fun _ => hv, fun j _ _ => Nat.zero_le _⟩ (fun n s h => ?_) (fun n g s hg h ih => ?_)
  · rw [wl_Gr_gapInRow_6]
    refine ⟨fun _ => h0 (fun i hi => ?_), fun q => absurd le16 q⟩
    cases hb : bt r i
    · rfl
    · have := h.2 i hi hb
      unfold ab at this
      by_cases q : x ≤ i <;> simp only [q, if_true, if_false] at this <;> omega
  · rw [wl_Gr_gapInRow_6]
    refine ⟨fun q => absurd q (ge16 hg), fun _ => ⟨fun q => h0 (fun i _ => by rw [q]; exact b_0 i), fun q => ⟨fun q2 => ?_, fun q2 => ?_⟩⟩⟩
    · intro w ew
      rw [nI_1]
      have nob : ∀ j, j < 16 → bt r j = true → ¬ ab x j ≤ g := by
        intro j hj hb hle
        have e := congrArg (fun z => bt z j) q2
        simp only [b_and, b_0, hb, h.1 hg j (by omega), decide_eq_true hle] at e
        cases e
      refine ih _ ⟨fun hg2 j hj => ?_, fun j hj hb => ?_⟩
      · rw [ew]
        exact rbits hx (by omega) hj (h.1 hg)
      · have := nob j hj hb
        omega
    · obtain ⟨i, hi, hb⟩ := nz_bit q2
      rw [b_and, Bool.and_eq_true] at hb
      have hi16 : i < 16 := by
        rcases Nat.lt_or_ge i 16 with z | z
        · exact z
        · rw [hr i z] at hb; cases hb.1
      have hle : ab x i ≤ g := by
        have := hb.2
        rw [h.1 hg i hi] at this
        exact of_decide_eq_true this
      have e : g = ab x i := by have := h.2 i hi16 hb.1; omega
      rw [e]
      refine h1 i hi16 hb.1 (fun j hj hbj => ?_)
      have := h.2 j hj hbj
      omega
def nearL (d : Nat → Nat → Bool) (x y i : Nat) (v : Int32) : Prop :=
  ((∀ X Y, X < 16 → Y < i → d X Y = false) ∧ v = (-1)) ∨ ∃ X Y, X < 16 ∧ Y < i ∧ d X Y = true ∧ v = nI (ds x y X Y) ∧ ∀ X' Y', X' < 16 → Y' < i → d X' Y' = true → ds x y X Y ≤ ds x y X' Y'
theorem j_abs {a b : Nat} (ha : a < 65536) (hb : b < 65536) : jabs (nI a - nI b) = nI (ab b a) := by
  unfold jabs ab
  by_cases q : b ≤ a
  · rw [pk_sub q, if_pos (nI_pos' (by omega)), if_pos q]
  · have hn : nI a - nI b < 0 := pk_sneg (by omega) (by omega)
    rw [if_neg ?_, if_neg q]
    · rw [show b - a = b - a from rfl, ← pk_sub (show a ≤ b by omega)]
      apply Int32.toBitVec_inj.mp
      simp
    · rw [i_le]
      rw [i_lt] at hn
      omega
theorem s_dist {f : IA} (hf : g16 f) {x y : Nat} (hx : x < 16) (hy : y < 16) {Q : Int32 → Prop} (hQ : Q (nearF (dk f) x y)) : wp_Gr_distanceFrom f (nI x) (nI y) Q := by
  refine lp (fun n i (s : Int32) => wl_Gr_distanceFrom_5 f (nI x) (nI y) Q n (nI i) s) (fun i s => nearL (dk f) x y i s) 16 (-1) (Or.inl ⟨fun X Y _ hY => by omega, rfl⟩) (fun n s h => ?_) (fun n i s hi h ih => ?_)
  · rw [wl_Gr_distanceFrom_5]
    have : isNear (dk f) x y s := h
    rw [nearF_eq this] at hQ
    exact ⟨fun _ => hQ, fun q => absurd le16 q⟩
  · rw [wl_Gr_distanceFrom_5]
    refine ⟨fun q => absurd q (ge16 hi), fun _ => ⟨in16 hi, ?_⟩⟩
    rw [clN (by omega), j_abs (by omega) (by omega), nI_1]
    refine s_gap (hf i hi) hx (fun hz => ?_) (fun j hj hb hmn => ?_)
    · intro v _
      dsimp only [jn]
      refine ⟨fun _ => ih _ ?_, fun q => absurd rfl q⟩
      rcases h with ⟨a, e⟩ | ⟨X, Y, hX, hY, hd, e, hm⟩
      · refine Or.inl ⟨fun X Y hX hY => ?_, e⟩
        by_cases q : Y = i
        · subst q; rw [dk_in hX hi]; exact hz X hX
        · exact a X Y hX (by omega)
      · refine Or.inr ⟨X, Y, hX, by omega, hd, e, fun X' Y' hX' hY' hd' => ?_⟩
        by_cases q : Y' = i
        · subst q; rw [dk_in hX' hi, hz X' hX'] at hd'; cases hd'
        · exact hm X' Y' hX' (by omega) hd'
    · intro v ev
      rw [nI_add] at ev
      have ev : v = nI (ds x y j i) := ev
      have hlt := ds_lt hx hy hj hi
      have dj : dk f j i = true := by rw [dk_in hj hi]; exact hb
      have row : ∀ X', X' < 16 → dk f X' i = true → ds x y j i ≤ ds x y X' i := by
        intro X' hX' hd'
        rw [dk_in hX' hi] at hd'
        have := hmn X' hX' hd'
        unfold ds
        omega
      dsimp only [jn]
      have ne1 : ∀ k : Nat, k < 1000 → ¬ nI k = (-1) := by
        intro k hk q
        have q2 := congrArg Int32.toInt q
        rw [n_t (by omega)] at q2
        have : (-1 : Int32).toInt = -1 := rfl
        omega
      have hab : ab x j < 1000 := by unfold ab; by_cases q : x ≤ j <;> simp only [q, if_true, if_false] <;> omega
      refine ⟨fun q => absurd q (ne1 _ hab), fun _ => ?_⟩
      rcases h with ⟨a, e⟩ | ⟨X, Y, hX, hY, hd, e, hm⟩
      · refine ⟨fun _ => ih _ (Or.inr ⟨j, i, hj, by omega, dj, ev, fun X' Y' hX' hY' hd' => ?_⟩), fun q => absurd e q⟩
        by_cases q : Y' = i
        · subst q; exact row X' hX' hd'
        · rw [a X' Y' hX' (by omega)] at hd'; cases hd'
      · have hl2 := ds_lt hx hy hX (show Y < 16 by omega)
        refine ⟨fun q => absurd (e ▸ q) (ne1 _ (by omega)), fun _ => ⟨fun q => ih _ (Or.inr ⟨X, Y, hX, by omega, hd, e, fun X' Y' hX' hY' hd' => ?_⟩), fun q => ih _ (Or.inr ⟨j, i, hj, by omega, dj, ev, fun X' Y' hX' hY' hd' => ?_⟩)⟩⟩
        · rw [e, ev] at q
          have q := (nI_leI (by omega) (by omega)).mp q
          by_cases z : Y' = i
          · subst z; have := row X' hX' hd'; omega
          · exact hm X' Y' hX' (by omega) hd'
        · rw [e, ev] at q
          have q : ¬ ds x y X Y ≤ ds x y j i := fun z => q ((nI_leI (by omega) (by omega)).mpr z)
          by_cases z : Y' = i
          · subst z; exact row X' hX' hd'
          · have := hm X' Y' hX' (by omega) hd'; omega
/-! bands -/
def nb (d : Nat → Nat → Bool) (X Y : Nat) : Bool := (decide (1 ≤ X) && d (X - 1) Y) || (d (X + 1) Y || ((decide (1 ≤ Y) && d X (Y - 1)) || d X (Y + 1)))
def clp (d : Nat → Nat → Bool) (X Y : Nat) : Bool := decide (X < 16 ∧ Y < 16) && d X Y
def widk (d : Nat → Nat → Bool) : Nat → Nat → Nat → Bool
  | 0 => d
  | k + 1 => clp (fun X Y => widk d k X Y || nb (widk d k) X Y)
def nbr (f : IA) (y : Nat) : Int32 := ((((jshl (f y) 1) ||| (jush (f y) 1)) ||| (if 1 ≤ y then f (y - 1) else 0)) ||| (if y + 1 < 16 then f (y + 1) else 0)) &&& 65535
theorem s_nbr {f : IA} {y : Nat} (hy : y < 16) {Q : Int32 → Prop} (hQ : Q (nbr f y)) : wp_Gr_neighboursInRow f (nI y) Q := by
  unfold wp_Gr_neighboursInRow
  have h16 := in16 hy
  rw [e_row, clN (by omega)]
  refine ⟨fun _ => ?_, fun q => absurd h16 q⟩
  rw [e_row, clN (by omega)]
  refine ⟨fun _ => ?_, fun q => absurd h16 q⟩
  rw [e_row]
  have up : ∀ r3 : Int32, r3 = (if 1 ≤ y then f (y - 1) else 0) → wp_Gr_row f (nI y + 1) (fun r_4 => Q (((((jshl (f y) 1) ||| (jush (f y) 1)) ||| r3) ||| r_4) &&& 65535)) := by
    intro r3 e3
    rw [e_row, nI_1]
    have hq : ∀ r4 : Int32, r4 = (if y + 1 < 16 then f (y + 1) else 0) → Q (((((jshl (f y) 1) ||| (jush (f y) 1)) ||| r3) ||| r4) &&& 65535) := by
      intro r4 e4
      rw [e3, e4]
      exact hQ
    refine ⟨fun q => hq _ ?_, fun q => hq _ ?_⟩
    · rw [vinN (by omega)] at q
      rw [if_pos q, clN (by omega)]
    · rw [vinN (by omega)] at q
      rw [if_neg q]
  by_cases q : 1 ≤ y
  · have e : nI y - 1 = nI (y - 1) := pk_sub (b := 1) q
    rw [e, clN (by omega)]
    exact ⟨fun _ => up _ (by rw [if_pos q]), fun z => absurd (in16 (by omega)) z⟩
  · refine ⟨fun z => ?_, fun _ => up _ (by rw [if_neg q])⟩
    exfalso
    have e0 : y = 0 := by omega
    subst e0
    rw [vin] at z
    have : (nI 0 - 1 : Int32).toInt = -1 := by decide
    omega
theorem nbr_bt {f : IA} (hf : g16 f) {X Y : Nat} (hX : X < 16) (hY : Y < 16) : bt (nbr f Y) X = nb (dk f) X Y := by
  unfold nbr nb
  rw [bm, decide_eq_true hX, Bool.and_true, b_or, b_or, b_or, show jshl (f Y) 1 = jshl (f Y) (nI 1) from rfl, show jush (f Y) 1 = jush (f Y) (nI 1) from rfl, j_shl 1 (by omega) _ (by omega), j_ush 1 (by omega)]
  have e1 : (decide (1 ≤ X) && bt (f Y) (X - 1)) = (decide (1 ≤ X) && dk f (X - 1) Y) := by rw [dk_in (by omega) hY]
  have e2 : bt (f Y) (1 + X) = dk f (X + 1) Y := by
    rw [Nat.add_comm 1 X]
    rcases Nat.lt_or_ge (X + 1) 16 with q | q
    · rw [dk_in q hY]
    · rw [dk_out (by omega), hf Y hY _ q]
  have e3 : bt (if 1 ≤ Y then f (Y - 1) else 0) X = (decide (1 ≤ Y) && dk f X (Y - 1)) := by
    by_cases q : 1 ≤ Y
    · rw [if_pos q, decide_eq_true q, Bool.true_and, dk_in hX (by omega)]
    · rw [if_neg q, decide_eq_false q, b_0]; rfl
  have e4 : bt (if Y + 1 < 16 then f (Y + 1) else 0) X = dk f X (Y + 1) := by
    by_cases q : Y + 1 < 16
    · rw [if_pos q, dk_in hX q]
    · rw [if_neg q, dk_out (by omega), b_0]
  rw [e1, e2, e3, e4, Bool.or_assoc, Bool.or_assoc]
theorem s_widen {f g : IA} (hg : g16 g) {Q : IA → Prop} (hQ : ∀ f' : IA, rowsS f' (fun X Y => dk g X Y || nb (dk g) X Y) → Q f') : wp_Gr_takeWidened f g Q := by
  refine lp (fun n i (s : IA) => wl_Gr_takeWidened_2 g Q n (nI i) s) (fun i s => ∀ y, y < i → s y = g y ||| nbr g y) 16 f (fun y hy => by omega) (fun n s h => ?_) (fun n i s hi h ih => ?_)
  · rw [wl_Gr_takeWidened_2]
    refine ⟨fun _ => hQ s ⟨fun y hy => ?_, fun y hy x hx => ?_⟩, fun q => absurd le16 q⟩
    · rw [h y hy]; exact r16_or (hg y hy) (r16_mask _)
    · show bt (s y) x = (dk g x y || nb (dk g) x y)
      rw [h y hy, b_or, nbr_bt hg hx hy, dk_in hx hy]
  · rw [wl_Gr_takeWidened_2]
    refine ⟨fun q => absurd q (ge16 hi), fun _ => ⟨in16 hi, ?_⟩⟩
    refine s_nbr hi ⟨in16 hi, fun f1 e1 => ?_⟩
    subst e1
    rw [clN (by omega), nI_1]
    refine ih _ (fun y hy => ?_)
    by_cases q : y = i
    · subst q; exact pk_us
    · rw [pk_un q]; exact h y (by omega)
theorem s_bandL {md sp : IA} {d : Nat → Nat → Bool} {t : Nat} (ht : t < 31) (hm : rowsS md d) (hd : ∀ X Y, ¬ (X < 16 ∧ Y < 16) → d X Y = false) {K : Int32 → IA → IA → Prop} (hK : ∀ md' sp' : IA, rowsS md' (widk d t) → K (nI t) md' sp') : ∃ n, wl_Qm_band_42 (nI t) K n 0 md sp := by
  have hw : ∀ k X Y, ¬ (X < 16 ∧ Y < 16) → widk d k X Y = false := by
    intro k
    cases k with
    | zero => exact hd
    | succ k => intro X Y h; show (decide (X < 16 ∧ Y < 16) && _) = false; rw [decide_eq_false h]; rfl
  refine lp (fun n i (s : IA × IA) => wl_Qm_band_42 (nI t) K n (nI i) s.1 s.2) (fun i s => rowsS s.1 (widk d i)) t (md, sp) hm (fun n s h => ?_) (fun n i s hi h ih => ?_)
  · rw [wl_Qm_band_42]
    exact ⟨fun _ => hK _ _ h, fun q => absurd (nI_le (Nat.le_refl t) (by omega)) q⟩
  · rw [wl_Qm_band_42]
    refine ⟨fun q => absurd q (ge_nn hi (by omega)), fun _ => ?_⟩
    refine s_widen h.1 (fun f1 h1 => s_take (fun f2 h2 => ?_))
    rw [nI_1]
    have e : dk s.1 = widk d i := by
      funext X Y
      by_cases q : X < 16 ∧ Y < 16
      · exact rowsS_dk h q.1 q.2
      · rw [dk_out q, hw i X Y q]
    rw [e] at h1
    refine ih (f2, f1) (rowsS_rows (rowsS_congr h1 (fun x y hx hy => ?_)) h2)
    show _ = (decide (x < 16 ∧ y < 16) && _)
    rw [decide_eq_true ⟨hx, hy⟩, Bool.true_and]
theorem ds_0 {x y X Y : Nat} (h : ds x y X Y = 0) : x = X ∧ y = Y := by
  unfold ds ab at h
  by_cases h1 : x ≤ X <;> by_cases h2 : y ≤ Y <;> simp only [h1, h2, if_true, if_false] at h <;> omega
theorem wid_ds {d : Nat → Nat → Bool} (hd : ∀ X Y, ¬ (X < 16 ∧ Y < 16) → d X Y = false) : ∀ k X Y, X < 16 → Y < 16 → (widk d k X Y = true ↔ ∃ X' Y', X' < 16 ∧ Y' < 16 ∧ d X' Y' = true ∧ ds X Y X' Y' ≤ k) := by
  intro k
  induction k with
  | zero =>
    intro X Y hX hY
    constructor
    · intro h
      exact ⟨X, Y, hX, hY, h, by unfold ds ab; simp⟩
    · intro ⟨X', Y', hX', hY', h, h2⟩
      obtain ⟨e1, e2⟩ := ds_0 (show ds X Y X' Y' = 0 by omega)
      subst e1; subst e2
      exact h
  | succ k ih =>
    intro X Y hX hY
    have hw : ∀ X Y, ¬ (X < 16 ∧ Y < 16) → widk d k X Y = false := by
      cases k with
      | zero => exact hd
      | succ k => intro X Y h; show (decide (X < 16 ∧ Y < 16) && _) = false; rw [decide_eq_false h]; rfl
    show (decide (X < 16 ∧ Y < 16) && (widk d k X Y || nb (widk d k) X Y)) = true ↔ _
    rw [decide_eq_true ⟨hX, hY⟩, Bool.true_and]
    constructor
    · intro h
      rw [Bool.or_eq_true] at h
      have step : ∀ A B, widk d k A B = true → (ab A X ≤ 1 ∧ B = Y ∨ A = X ∧ ab B Y ≤ 1) → ∃ X' Y', X' < 16 ∧ Y' < 16 ∧ d X' Y' = true ∧ ds X Y X' Y' ≤ k + 1 := by
        intro A B hA hn
        have hAB : A < 16 ∧ B < 16 := by
          apply Classical.byContradiction
          intro q
          rw [hw A B q] at hA; cases hA
        obtain ⟨X', Y', a, b, c, e⟩ := (ih A B hAB.1 hAB.2).mp hA
        refine ⟨X', Y', a, b, c, ?_⟩
        unfold ds ab at e ⊢
        unfold ab at hn
        by_cases q1 : A ≤ X' <;> by_cases q2 : B ≤ Y' <;> by_cases q3 : X ≤ X' <;> by_cases q4 : Y ≤ Y' <;> by_cases q5 : A ≤ X <;> by_cases q6 : B ≤ Y <;> simp only [q1, q2, q3, q4, q5, q6, if_true, if_false] at e hn ⊢ <;> omega
      rcases h with h | h
      · exact step X Y h (Or.inl ⟨by unfold ab; simp, rfl⟩)
      · unfold nb at h
        rw [Bool.or_eq_true, Bool.or_eq_true, Bool.or_eq_true, Bool.and_eq_true, Bool.and_eq_true, decide_eq_true_iff, decide_eq_true_iff] at h
        rcases h with h | h | h | h
        · exact step _ _ h.2 (Or.inl ⟨by unfold ab; rw [if_pos (by omega)]; omega, rfl⟩)
        · exact step _ _ h (Or.inl ⟨by unfold ab; rw [if_neg (by omega)]; omega, rfl⟩)
        · exact step _ _ h.2 (Or.inr ⟨rfl, by unfold ab; rw [if_pos (by omega)]; omega⟩)
        · exact step _ _ h (Or.inr ⟨rfl, by unfold ab; rw [if_neg (by omega)]; omega⟩)
    · intro ⟨X', Y', a, b, c, e⟩
      rw [Bool.or_eq_true]
      by_cases q : ds X Y X' Y' ≤ k
      · exact Or.inl ((ih X Y hX hY).mpr ⟨X', Y', a, b, c, q⟩)
      · right
        unfold nb
        rw [Bool.or_eq_true, Bool.or_eq_true, Bool.or_eq_true, Bool.and_eq_true, Bool.and_eq_true, decide_eq_true_iff, decide_eq_true_iff]
        by_cases x1 : X < X'
        · refine Or.inr (Or.inl ((ih (X + 1) Y (by omega) hY).mpr ⟨X', Y', a, b, c, ?_⟩))
          unfold ds ab at e ⊢
          rw [if_pos (by omega)] at e ⊢
          omega
        · by_cases x2 : X' < X
          · refine Or.inl ⟨by omega, (ih (X - 1) Y (by omega) hY).mpr ⟨X', Y', a, b, c, ?_⟩⟩
            unfold ds ab at e ⊢
            rw [if_neg (by omega)] at e
            by_cases z : X - 1 ≤ X' <;> simp only [z, if_true, if_false] <;> omega
          · have ex : X = X' := by omega
            subst ex
            by_cases y1 : Y < Y'
            · refine Or.inr (Or.inr (Or.inr ((ih X (Y + 1) hX (by omega)).mpr ⟨X, Y', a, b, c, ?_⟩)))
              unfold ds ab at e ⊢
              rw [if_pos (Nat.le_refl X)] at e ⊢
              rw [if_pos (by omega)] at e ⊢
              omega
            · have y2 : Y' < Y := by
                rcases Nat.lt_or_ge Y' Y with z | z
                · exact z
                · exfalso
                  apply q
                  have : Y = Y' := by omega
                  subst this
                  unfold ds ab
                  simp
              refine Or.inr (Or.inr (Or.inl ⟨by omega, (ih X (Y - 1) hX (by omega)).mpr ⟨X, Y', a, b, c, ?_⟩⟩))
              unfold ds ab at e ⊢
              rw [if_pos (Nat.le_refl X)] at e ⊢
              rw [if_neg (by omega)] at e
              by_cases z : Y - 1 ≤ Y' <;> simp only [z, if_true, if_false] <;> omega
theorem near_ex (d : Nat → Nat → Bool) (x y : Nat) : isNear d x y (nearF d x y) := by
  apply Classical.epsilon_spec (p := isNear d x y)
  by_cases h : ∃ k X Y, X < 16 ∧ Y < 16 ∧ d X Y = true ∧ ds x y X Y = k
  · obtain ⟨k, ⟨X, Y, a, b, c, e⟩, hm⟩ := pk_least (fun k => ∃ X Y, X < 16 ∧ Y < 16 ∧ d X Y = true ∧ ds x y X Y = k) h
    refine ⟨nI (ds x y X Y), Or.inr ⟨X, Y, a, b, c, rfl, fun X' Y' a' b' c' => ?_⟩⟩
    rcases Nat.lt_or_ge (ds x y X' Y') k with q | q
    · exact absurd ⟨X', Y', a', b', c', rfl⟩ (hm _ q)
    · omega
  · refine ⟨(-1), Or.inl ⟨fun X Y hX hY => ?_, rfl⟩⟩
    cases hb : d X Y
    · rfl
    · exact absurd ⟨_, X, Y, hX, hY, hb, rfl⟩ h
theorem near_le {d : Nat → Nat → Bool} {x y k : Nat} (hx : x < 16) (hy : y < 16) (hk : k < 31) : (0 ≤ (nearF d x y).toInt ∧ (nearF d x y).toInt ≤ (k : Int)) ↔ ∃ X Y, X < 16 ∧ Y < 16 ∧ d X Y = true ∧ ds x y X Y ≤ k := by
  rcases near_ex d x y with ⟨a, e⟩ | ⟨X, Y, a, b, c, e, hm⟩
  · rw [e]
    have h1 : (-1 : Int32).toInt = -1 := rfl
    rw [h1]
    constructor
    · intro h; omega
    · intro ⟨X, Y, h1, h2, h3, _⟩; rw [a X Y h1 h2] at h3; cases h3
  · have hlt := ds_lt hx hy a b
    rw [e, n_t (by omega)]
    constructor
    · intro h; exact ⟨X, Y, a, b, c, by omega⟩
    · intro ⟨X', Y', a', b', c', h⟩
      have := hm X' Y' a' b' c'
      omega
theorem t_bandL {rows fresh : IA} {a t : Nat} (ha : a < 4) (ht : t < 31) (hf : rowsS fresh (fun _ _ => false)) {K : Int32 → IA → Prop} (hK : ∀ f' : IA, rowsS f' (widk (dk (mg rows a)) t) → K (nI 256) f') : ∃ n, wl_Md_band_36 rows (nI a) (nI t) K n 0 fresh := by
  refine lp (fun n i (s : IA) => wl_Md_band_36 rows (nI a) (nI t) K n (nI i) s) (fun i s => cellsI (widk (dk (mg rows a)) t) (fun _ _ => false) i s) 256 fresh (cells_0 hf) (fun n s hs => ?_) (fun n i s hi hs ih => ?_)
  · rw [wl_Md_band_36]
    exact ⟨fun _ => hK s (cells_e hs), fun q => absurd le256 q⟩
  · rw [wl_Md_band_36]
    refine ⟨fun q => absurd q (ge256 hi), fun _ => ?_⟩
    have hx : i % 16 < 16 := by omega
    have hy : i / 16 < 16 := by omega
    have hd : ∀ X Y, ¬ (X < 16 ∧ Y < 16) → dk (mg rows a) X Y = false := fun X Y h => dk_out h
    rw [r16d hi, d16d hi]
    refine t_nearOf ha hx hy ?_
    rw [e_in, t64, t64, n_t (by omega)]
    have h0 : (0 : Int64).toInt = 0 := rfl
    rw [h0, near_le hx hy ht, ← wid_ds hd t (i % 16) (i / 16) hx hy]
    unfold wj_Md_band_85
    dsimp only [jn]
    have fin : ∀ b : Bool, widk (dk (mg rows a)) t (i % 16) (i / 16) = b → wp_Md_sets s (jrem (nI i) 16) (nI i / 16) (if b then 1 else 0) (fun m_fresh_2 => wl_Md_band_36 rows (nI a) (nI t) K n (nI i + 1) m_fresh_2) := by
      intro b hb
      rw [r16d hi, d16d hi, e_sets s hx hy, nI_1, ← hb]
      exact ih _ (cells_s hi hs)
    refine ⟨fun q => ?_, fun q => ?_⟩
    · rw [br1]
      exact fin true q
    · rw [br0]
      exact fin false (by cases hb : widk (dk (mg rows a)) t (i % 16) (i / 16) <;> simp_all)
