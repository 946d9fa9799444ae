/-! Grids: what the rows' methods make, by their bits. -/
def r16 (r : Int32) : Prop := ∀ i, 16 ≤ i → bt r i = false
def g16 (f : IA) : Prop := ∀ y, y < 16 → r16 (f y)
def dk (f : IA) (x y : Nat) : Bool := decide (x < 16) && (decide (y < 16) && bt (f y) x)
theorem r16_and {r : Int32} (s : Int32) (h : r16 r) : r16 (r &&& s) := fun i hi => by rw [b_and, h i hi]; simp
theorem r16_or {r s : Int32} (h : r16 r) (h2 : r16 s) : r16 (r ||| s) := fun i hi => by rw [b_or, h i hi, h2 i hi]; rfl
theorem r16_xor {r s : Int32} (h : r16 r) (h2 : r16 s) : r16 (r ^^^ s) := fun i hi => by rw [b_xor, h i hi, h2 i hi]; rfl
theorem r16_mask (r : Int32) : r16 (r &&& 65535) := fun i hi => by rw [b_and, b_65535, decide_eq_false (by omega)]; simp
theorem r16_full : r16 65535 := fun i hi => by rw [b_65535, decide_eq_false (by omega)]
theorem r16_0 : r16 0 := fun i _ => b_0 i
theorem r_ext {r s : Int32} (h : r16 r) (h2 : r16 s) (e : ∀ i, i < 16 → bt r i = bt s i) : r = s := b_ext (fun i _ => by
  rcases Nat.lt_or_ge i 16 with q | q
  · exact e i q
  · rw [h i q, h2 i q])
theorem m16 {r : Int32} (h : r16 r) : r &&& 65535 = r := r_ext (r16_mask r) h (fun i hi => by rw [b_and, b_65535, decide_eq_true hi, Bool.and_true])
theorem bm {r : Int32} {i : Nat} : bt (r &&& 65535) i = (bt r i && decide (i < 16)) := by rw [b_and, b_65535]
theorem j_shl (n : Nat) (hn : n < 32) (x : Int32) {i : Nat} (hi : i < 32) : bt (jshl x (nI n)) i = (decide (n ≤ i) && bt x (i - n)) := b_shl n hn x hi
theorem j_ush (n : Nat) (hn : n < 32) (x : Int32) (i : Nat) : bt (jush x (nI n)) i = bt x (n + i) := b_ushr n hn x i
theorem j_shr (n : Nat) (hn : n < 32) (x : Int32) {i : Nat} (hi : i < 32) : bt (jshr x (nI n)) i = if n + i < 32 then bt x (n + i) else bt x 31 := b_sshr n hn x hi
theorem b_1 : ∀ i, i < 32 → bt 1 i = decide (i = 0) := by decide +kernel
theorem b_one (n : Nat) (hn : n < 32) {i : Nat} (hi : i < 32) : bt (jshl 1 (nI n)) i = decide (i = n) := by
  rw [j_shl n hn 1 hi, b_1 _ (by omega)]
  by_cases h : i = n
  · subst h; simp
  · by_cases h2 : n ≤ i
    · rw [decide_eq_true h2, decide_eq_false (by omega), decide_eq_false h]; rfl
    · rw [decide_eq_false h2, decide_eq_false h]; rfl
theorem and1 (x : Int32) : x &&& 1 = if bt x 0 then 1 else 0 := by
  apply b_ext
  intro i hi
  rw [b_and, b_1 i hi]
  by_cases h : i = 0
  · subst h
    cases hb : bt x 0
    · simp [b_0]
    · simp [b_1]
  · rw [decide_eq_false h, Bool.and_false]
    cases hb : bt x 0
    · simp [b_0]
    · simp [b_1 i hi, h]
theorem e_row (f : IA) (z : Int32) (Q : Int32 → Prop) : wp_Gr_row f z Q ↔ ((vp_in z 16 → Q (f z.toNatClampNeg)) ∧ (¬ vp_in z 16 → Q 0)) := by
  unfold wp_Gr_row
  rw [vin, i_lt, i_le]
  have h0 : (0 : Int32).toInt = 0 := rfl
  have h1 : (16 : Int32).toInt = 16 := rfl
  rw [h0, h1]
  constructor
  · intro h
    refine ⟨fun q => ((h.2 (by omega)).2 (by omega)).2, fun q => ?_⟩
    by_cases h2 : z.toInt < 0
    · exact h.1 h2
    · exact (h.2 h2).1 (by omega)
  · intro h
    exact ⟨fun q => h.2 (by omega), fun q => ⟨fun q2 => h.2 (by omega), fun q2 => ⟨by omega, h.1 (by omega)⟩⟩⟩
theorem e_setRow (f : IA) (z v : Int32) (Q : IA → Prop) : wp_Gr_setRow f z v Q ↔ ((vp_in z 16 → Q (upd f z.toNatClampNeg (v &&& 65535))) ∧ (¬ vp_in z 16 → Q f)) := by
  unfold wp_Gr_setRow
  rw [e_w16, br1, br0]
  constructor
  · intro h
    exact ⟨fun q => (h.1 q).2 _ rfl, h.2⟩
  · intro h
    exact ⟨fun q => ⟨q, fun g e => e ▸ h.1 q⟩, h.2⟩
theorem e_isDark (f : IA) (x y : Int32) (Q : Int32 → Prop) : wp_Gr_isDark f x y Q ↔ ((vp_in x 16 ∧ vp_in y 16 ∧ bt (f y.toNatClampNeg) x.toNatClampNeg = true → Q 1) ∧ (¬ (vp_in x 16 ∧ vp_in y 16 ∧ bt (f y.toNatClampNeg) x.toNatClampNeg = true) → Q 0)) := by
  unfold wp_Gr_isDark
  rw [vin, vin, i_lt, i_le, i_lt, i_le]
  have h0 : (0 : Int32).toInt = 0 := rfl
  have h1 : (16 : Int32).toInt = 16 := rfl
  rw [h0, h1]
  have key : vp_in x 16 → ((jush (f y.toNatClampNeg) x &&& 1) = 0 ↔ ¬ bt (f y.toNatClampNeg) x.toNatClampNeg = true) := by
    intro hx
    obtain ⟨n, hn, rfl⟩ := vp_in_of hx (by omega)
    rw [and1, j_ush n (by omega), clN (by omega)]
    cases hb : bt (f y.toNatClampNeg) (n + 0)
    · simp at hb; simp [hb]
    · simp at hb; simp [hb]
  rw [vin] at key
  constructor
  · intro h
    refine ⟨fun q => (((((h.2 (by omega)).2 (by omega)).2 (by omega)).2 (by omega)).2).2 (fun e => (key (by omega)).mp e q.2.2), fun q => ?_⟩
    by_cases a1 : x.toInt < 0
    · exact h.1 a1
    · by_cases a2 : (16 : Int) ≤ x.toInt
      · exact (h.2 a1).1 a2
      · by_cases a3 : y.toInt < 0
        · exact ((h.2 a1).2 a2).1 a3
        · by_cases a4 : (16 : Int) ≤ y.toInt
          · exact (((h.2 a1).2 a2).2 a3).1 a4
          · exact ((((h.2 a1).2 a2).2 a3).2 a4).2.1 ((key (by omega)).mpr (fun e => q ⟨by omega, by omega, e⟩))
  · intro h
    exact ⟨fun q => h.2 (by omega), fun q => ⟨fun q2 => h.2 (by omega), fun q2 => ⟨fun q3 => h.2 (by omega), fun q3 => ⟨fun q4 => h.2 (by omega), fun q4 => ⟨by omega, fun q5 => h.2 (fun w => (key (by omega)).mp q5 w.2.2), fun q5 => h.1 ⟨by omega, by omega, Classical.byContradiction (fun w => q5 ((key (by omega)).mpr w))⟩⟩⟩⟩⟩⟩
/-- a loop from 0 to e -/
theorem lp {σ : Type} (W : Nat → Nat → σ → Prop) (I : Nat → σ → Prop) (e : Nat) (s : σ) (h0 : I 0 s) (hx : ∀ n s, I e s → W (n + 1) e s) (hs : ∀ n i s, i < e → I i s → (∀ s', I (i + 1) s' → W n (i + 1) s') → W (n + 1) i s) : ∃ n, W n 0 s := loop_0 W I e s h0 hx hs
theorem ge16 {i : Nat} (h : i < 16) : ¬ (16 : Int32) ≤ nI i := by
  show ¬ nI 16 ≤ nI i
  exact nI_ge h (by omega)
theorem le16 : (16 : Int32) ≤ nI 16 := by decide
theorem in16 {i : Nat} (h : i < 16) : vp_in (nI i) 16 := vp_in_nI h (by omega)
theorem s_take {f g : IA} {Q : IA → Prop} (hQ : ∀ f' : IA, (∀ y, y < 16 → f' y = g y) → Q f') : wp_Gr_take f g Q := by
  refine lp (fun n i (s : IA) => wl_Gr_take_2 g Q n (nI i) s) (fun i s => ∀ y, y < i → s y = g y) 16 f (fun y hy => by omega) (fun n s h => ?_) (fun n i s hi h ih => ?_)
  · rw [wl_Gr_take_2]
    exact ⟨fun _ => hQ s h, fun q => absurd le16 q⟩
  · rw [wl_Gr_take_2]
    refine ⟨fun q => absurd q (ge16 hi), fun _ => ⟨in16 hi, in16 hi, fun f1 e1 => ?_⟩⟩
    subst e1
    rw [nI_1, clN (by omega)]
    refine ih _ (fun y hy => ?_)
    by_cases q : y = i
    · subst q; exact pk_us
    · rw [pk_un q]; exact h y (by omega)
theorem s_over {f g : IA} {Q : IA → Prop} (hQ : ∀ f' : IA, (∀ y, y < 16 → f' y = g y ^^^ 65535) → Q f') : wp_Gr_takeTurnedOver f g Q := by
  refine lp (fun n i (s : IA) => wl_Gr_takeTurnedOver_2 g Q n (nI i) s) (fun i s => ∀ y, y < i → s y = g y ^^^ 65535) 16 f (fun y hy => by omega) (fun n s h => ?_) (fun n i s hi h ih => ?_)
  · rw [wl_Gr_takeTurnedOver_2]
    exact ⟨fun _ => hQ s h, fun q => absurd le16 q⟩
  · rw [wl_Gr_takeTurnedOver_2]
    refine ⟨fun q => absurd q (ge16 hi), fun _ => ⟨in16 hi, in16 hi, fun f1 e1 => ?_⟩⟩
    subst e1
    rw [nI_1, clN (by omega)]
    refine ih _ (fun y hy => ?_)
    by_cases q : y = i
    · subst q; exact pk_us
    · rw [pk_un q]; exact h y (by omega)
