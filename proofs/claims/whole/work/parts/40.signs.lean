/-! Squares of one kind, blocks. -/
def sqB (s x : Nat) : Int32 := jshl (jshl 1 (nI s) - 1) (nI x)
theorem sqB_bt {s x i : Nat} (hs : s ≤ 16) (hx : x < 16) (hi : i < 32) : bt (sqB s x) i = decide (x ≤ i ∧ i < x + s) := mbits hs hx hi
theorem mk_eq {s x : Nat} {a c : Int32} (hs : s ≤ 16) (hx : x < 16) : a &&& sqB s x = c &&& sqB s x ↔ ∀ i, i < s → bt a (x + i) = bt c (x + i) := by
  constructor
  · intro h i hi
    have e : bt (a &&& sqB s x) (x + i) = bt (c &&& sqB s x) (x + i) := by rw [h]
    rw [b_and, b_and, sqB_bt hs hx (by omega), decide_eq_true (by omega), Bool.and_true, Bool.and_true] at e
    exact e
  · intro h
    apply b_ext
    intro i hi
    rw [b_and, b_and, sqB_bt hs hx hi]
    by_cases q : x ≤ i ∧ i < x + s
    · have e := h (i - x) (by omega)
      rw [show x + (i - x) = i by omega] at e
      rw [e]
    · rw [decide_eq_false q, Bool.and_false, Bool.and_false]
theorem mk_0 {s x : Nat} {a : Int32} (hs : s ≤ 16) (hx : x < 16) : a &&& sqB s x = 0 ↔ ∀ i, i < s → bt a (x + i) = false := by
  have e : (0 : Int32) &&& sqB s x = 0 := b_ext (fun i _ => by rw [b_and, b_0]; rfl)
  have h := @mk_eq s x a 0 hs hx
  rw [e] at h
  rw [h]
  simp only [b_0]
theorem mk_1 {s x : Nat} {a : Int32} (hs : s ≤ 16) (hx : x < 16) : a &&& sqB s x = sqB s x ↔ ∀ i, i < s → bt a (x + i) = true := by
  have e : (-1 : Int32) &&& sqB s x = sqB s x := b_ext (fun i hi => by rw [b_and, b_m1 i hi]; rfl)
  have h := @mk_eq s x a (-1) hs hx
  rw [e] at h
  rw [h]
  constructor
  · intro w i hi
    rw [w i hi, b_m1 _ (by omega)]
  · intro w i hi
    rw [w i hi, b_m1 _ (by omega)]
theorem uni_def {d : Nat → Nat → Bool} {s x y : Nat} : uni d s x y = true ↔ ∀ i, i < s → ∀ j, j < s → d (x + i) (y + j) = d x y := by
  unfold uni
  rw [decide_eq_true_iff]
theorem uni_iff {f : IA} {s x y : Nat} (h0 : 0 < s) (hx : x + s ≤ 16) (hy : y + s ≤ 16) : uni (dk f) s x y = true ↔ ((f y &&& sqB s x = 0 ∨ f y &&& sqB s x = sqB s x) ∧ ∀ j, j < s → f (y + j) &&& sqB s x = f y &&& sqB s x) := by
  have D : ∀ i j, i < s → j < s → dk f (x + i) (y + j) = bt (f (y + j)) (x + i) := fun i j hi hj => dk_in (by omega) (by omega)
  have D0 : dk f x y = bt (f y) (x + 0) := dk_in (by omega) (by omega)
  rw [uni_def, mk_0 (by omega) (by omega), mk_1 (by omega) (by omega)]
  constructor
  · intro h
    refine ⟨?_, fun j hj => (mk_eq (by omega) (by omega)).mpr (fun i hi => ?_)⟩
    · cases hb : dk f x y
      · refine Or.inl (fun i hi => ?_)
        have := h i hi 0 h0
        rw [D i 0 hi h0, hb] at this
        exact this
      · refine Or.inr (fun i hi => ?_)
        have := h i hi 0 h0
        rw [D i 0 hi h0, hb] at this
        exact this
    · have a := h i hi j hj
      have b := h i hi 0 h0
      rw [D i j hi hj] at a
      rw [D i 0 hi h0] at b
      exact a.trans b.symm
  · intro h i hi j hj
    rw [D i j hi hj, (mk_eq (by omega) (by omega)).mp (h.2 j hj) i hi, D0]
    rcases h.1 with w | w
    · rw [w i hi, w 0 h0]
    · rw [w i hi, w 0 h0]
theorem uni_f {f : IA} {s x y : Nat} (h0 : 0 < s) (hx : x + s ≤ 16) (hy : y + s ≤ 16) (h : ¬ ((f y &&& sqB s x = 0 ∨ f y &&& sqB s x = sqB s x) ∧ ∀ j, j < s → f (y + j) &&& sqB s x = f y &&& sqB s x)) : uni (dk f) s x y = false := by
  cases hu : uni (dk f) s x y
  · rfl
  · exact absurd ((uni_iff h0 hx hy).mp hu) h
def sgn (d : Nat → Nat → Bool) (s x y : Nat) : Nat := if uni d s x y then (if d x y then 1 else 0) else 2
theorem sgn_t {d : Nat → Nat → Bool} {s x y : Nat} (h : uni d s x y = true) : sgn d s x y = if d x y then 1 else 0 := by unfold sgn; rw [h]; rfl
theorem sgn_f {d : Nat → Nat → Bool} {s x y : Nat} (h : uni d s x y = false) : sgn d s x y = 2 := by unfold sgn; rw [h]; rfl
theorem sgn_lt (d : Nat → Nat → Bool) (s x y : Nat) : sgn d s x y < 3 := by
  unfold sgn
  cases uni d s x y <;> cases d x y <;> simp
theorem s_sign {f : IA} {s x y : Nat} (h0 : 0 < s) (hx : x + s ≤ 16) (hy : y + s ≤ 16) {Q : Int32 → Prop} (hQ : Q (nI (sgn (dk f) s x y))) : wp_Gr_signOfSquare f (nI x) (nI y) (nI s) Q := by
  unfold wp_Gr_signOfSquare
  intro B eB
  have eB' : B = sqB s x := eB
  clear eB
  subst eB'
  rw [e_row, clN (by omega)]
  refine ⟨fun _ F eF => ?_, fun q => absurd (in16 (by omega)) q⟩
  have q2 : uni (dk f) s x y = false → Q 2 := fun h => by rw [sgn_f h] at hQ; exact hQ
  have key : (F = 0 ∨ F = sqB s x) → wj_Gr_signOfSquare_33 f (nI y) (nI s) Q (sqB s x) F := by
    intro hF
    unfold wj_Gr_signOfSquare_33
    intro x6 e6
    have e6' : x6 = nI (y + 1) := by rw [e6, nI_1]
    clear e6
    subst e6'
    refine lp (fun n k (_ : Unit) => wl_Gr_signOfSquare_38 f (nI y) (nI s) Q (sqB s x) F (fun (_ : Int32) => (F = 0 → (Q 0)) ∧ (¬ F = 0 → (Q 1))) n (nI (y + 1 + k))) (fun k _ => ∀ j, j ≤ k → f (y + j) &&& sqB s x = F) (s - 1) () (fun j hj => ?_) (fun n _ h => ?_) (fun n k _ hk h ih => ?_)
    · rw [show j = 0 by omega, eF]; rfl
    · rw [wl_Gr_signOfSquare_38, nI_add]
      refine ⟨fun _ => ?_, fun q => absurd (nI_le (by omega) (by omega)) q⟩
      have hu : uni (dk f) s x y = true := (uni_iff h0 hx hy).mpr ⟨by rw [← eF]; exact hF, fun j hj => by rw [h j (by omega), eF]⟩
      rw [sgn_t hu, dk_in (by omega) (by omega)] at hQ
      refine ⟨fun q => ?_, fun q => ?_⟩
      · rw [eF] at q
        have w := (mk_0 (by omega) (by omega)).mp q 0 h0
        rw [Nat.add_zero] at w
        rw [w] at hQ
        exact hQ
      · rcases hF with w | w
        · exact absurd w q
        · rw [eF] at w
          have w2 := (mk_1 (by omega) (by omega)).mp w 0 h0
          rw [Nat.add_zero] at w2
          rw [w2] at hQ
          exact hQ
    · rw [wl_Gr_signOfSquare_38, nI_add]
      refine ⟨fun q => absurd q (nI_ge (by omega) (by omega)), fun _ => ⟨fun q => absurd q (ge16 (by omega)), fun _ => ?_⟩⟩
      rw [e_row, clN (by omega)]
      refine ⟨fun _ => ⟨fun q => ?_, fun q => ?_⟩, fun q => absurd (in16 (by omega)) q⟩
      · rw [nI_1]
        refine ih () (fun j hj => ?_)
        by_cases w : j = k + 1
        · subst w
          rw [show y + (k + 1) = y + 1 + k by omega]
          exact q
        · exact h j (by omega)
      · refine q2 (uni_f h0 hx hy (fun w => q ?_))
        rw [show y + 1 + k = y + (k + 1) by omega, w.2 (k + 1) (by omega), eF]
  dsimp only [jn]
  refine ⟨fun q => key (Or.inl q), fun q => ⟨fun q3 => key (Or.inr q3), fun q3 => q2 (uni_f h0 hx hy (fun w => ?_))⟩⟩
  rw [← eF] at w
  rcases w.1 with z | z
  · exact q z
  · exact q3 z
theorem t_isBlock {rows : IA} {m s x y : Nat} (hm : m < 4) (h0 : 0 < s) (hx : x + s ≤ 16) (hy : y + s ≤ 16) {Q : Int32 → Prop} (hQ : Q (if uni (dk (mg rows m)) s x y then 1 else 0)) : wp_Md_isBlock rows (nI m) (nI x) (nI y) (nI s) Q := by
  unfold wp_Md_isBlock
  intro B eB
  have eB' : B = sqB s x := eB
  clear eB
  subst eB'
  rw [ix64 hm (by omega), clN (by omega)]
  refine ⟨vp_in_nI (by omega) (by omega), fun F eF => ?_⟩
  have eF' : F = mg rows m y &&& sqB s x := eF
  have q0 : uni (dk (mg rows m)) s x y = false → Q 0 := fun h => by rw [h] at hQ; exact hQ
  have q1 : uni (dk (mg rows m)) s x y = true → Q 1 := fun h => by rw [h] at hQ; exact hQ
  have key : ∀ t : Int32, ((t = 1 ∧ (F = 0 ∨ F = sqB s x)) ∨ (t = 0 ∧ ¬ (F = 0 ∨ F = sqB s x))) → wj_Md_isBlock_43 rows (nI m) (nI y) (nI s) Q (sqB s x) F t := by
    intro t ht
    unfold wj_Md_isBlock_43
    refine lp (fun n k (u : Int32) => wl_Md_isBlock_48 rows (nI m) (nI y) (nI s) Q (sqB s x) F n (nI (k + 1)) u) (fun k u => (u = 1 ∧ (F = 0 ∨ F = sqB s x) ∧ ∀ j, j ≤ k → mg rows m (y + j) &&& sqB s x = F) ∨ (u = 0 ∧ uni (dk (mg rows m)) s x y = false)) (s - 1) t ?_ (fun n u h => ?_) (fun n k u hk h ih => ?_)
    · rcases ht with ⟨w1, w2⟩ | ⟨w1, w2⟩
      · refine Or.inl ⟨w1, w2, fun j hj => ?_⟩
        rw [show j = 0 by omega, eF']; rfl
      · refine Or.inr ⟨w1, uni_f h0 hx hy (fun w => w2 ?_)⟩
        rw [← eF'] at w
        exact w.1
    · rw [wl_Md_isBlock_48]
      refine ⟨fun _ => ?_, fun q => absurd (nI_le (by omega) (by omega)) q⟩
      rcases h with ⟨w1, w2, w3⟩ | ⟨w1, w2⟩
      · subst w1
        refine ⟨rfl, q1 ((uni_iff h0 hx hy).mpr ⟨by rw [← eF']; exact w2, fun j hj => by rw [w3 j (by omega), eF']⟩)⟩
      · subst w1
        exact ⟨rfl, q0 w2⟩
    · rw [wl_Md_isBlock_48]
      refine ⟨fun q => absurd q (nI_ge (by omega) (by omega)), fun _ => ?_⟩
      rcases h with ⟨w1, w2, w3⟩ | ⟨w1, w2⟩
      · subst w1
        refine ⟨fun q => absurd q (by decide), fun _ => ?_⟩
        rw [ix64 hm (by omega), nI_add, clN (by omega)]
        refine ⟨vp_in_nI (by omega) (by omega), ?_⟩
        dsimp only [jn]
        rw [nI_1]
        have em : rows (16 * m + y + (k + 1)) = mg rows m (y + (k + 1)) := by
          unfold mg
          rw [show 16 * m + y + (k + 1) = 16 * m + (y + (k + 1)) by omega]
        rw [em]
        refine ⟨fun q => ih _ (Or.inl ⟨rfl, w2, fun j hj => ?_⟩), fun q => ih _ (Or.inr ⟨rfl, uni_f h0 hx hy (fun w => q ?_)⟩)⟩
        · by_cases z : j = k + 1
          · subst z; exact q
          · exact w3 j (by omega)
        · rw [w.2 (k + 1) (by omega), eF']
      · subst w1
        exact ⟨fun _ => ⟨rfl, q0 w2⟩, fun q => absurd rfl q⟩
  dsimp only [jn]
  refine ⟨fun q => key _ (Or.inl ⟨rfl, Or.inl q⟩), fun q => ⟨fun q3 => key _ (Or.inl ⟨rfl, Or.inr q3⟩), fun q3 => key _ (Or.inr ⟨rfl, fun w => ?_⟩)⟩⟩
  rcases w with z | z
  · exact q z
  · exact q3 z
theorem uni_1 (d : Nat → Nat → Bool) (x y : Nat) : uni d 1 x y = true := by
  rw [uni_def]
  intro i hi j hj
  rw [show i = 0 by omega, show j = 0 by omega]; rfl
/-! the side of a cell's block -/
def alg (x s : Nat) : Nat := x / s * s
def sideF (d : Nat → Nat → Bool) (x y : Nat) : Nat := if uni d 16 (alg x 16) (alg y 16) then 16 else if uni d 8 (alg x 8) (alg y 8) then 8 else if uni d 4 (alg x 4) (alg y 4) then 4 else if uni d 2 (alg x 2) (alg y 2) then 2 else 1
theorem an16 : ∀ x, x < 16 → nI x &&& (-(nI 16)) = nI (alg x 16) := by decide +kernel
theorem an8 : ∀ x, x < 16 → nI x &&& (-(nI 8)) = nI (alg x 8) := by decide +kernel
theorem an4 : ∀ x, x < 16 → nI x &&& (-(nI 4)) = nI (alg x 4) := by decide +kernel
theorem an2 : ∀ x, x < 16 → nI x &&& (-(nI 2)) = nI (alg x 2) := by decide +kernel
theorem an1 : ∀ x, x < 16 → nI x &&& (-(nI 1)) = nI (alg x 1) := by decide +kernel
theorem al16 : ∀ x, x < 16 → alg x 16 + 16 ≤ 16 := by decide +kernel
theorem al8 : ∀ x, x < 16 → alg x 8 + 8 ≤ 16 := by decide +kernel
theorem al4 : ∀ x, x < 16 → alg x 4 + 4 ≤ 16 := by decide +kernel
theorem al2 : ∀ x, x < 16 → alg x 2 + 2 ≤ 16 := by decide +kernel
theorem al1 : ∀ x, x < 16 → alg x 1 + 1 ≤ 16 := by decide +kernel
theorem sgn_2 {d : Nat → Nat → Bool} {s x y : Nat} : nI (sgn d s x y) = 2 ↔ uni d s x y = false := by
  cases hu : uni d s x y
  · rw [sgn_f hu]; exact ⟨fun _ => rfl, fun _ => rfl⟩
  · rw [sgn_t hu]
    cases d x y
    · exact ⟨fun h => absurd h (by decide), fun h => absurd h (by decide)⟩
    · exact ⟨fun h => absurd h (by decide), fun h => absurd h (by decide)⟩
theorem sideL {f : IA} {x y s n : Nat} (h1 : 1 < s) (hs : s ≤ 16) (ex : nI x &&& (-(nI s)) = nI (alg x s)) (ey : nI y &&& (-(nI s)) = nI (alg y s)) (hx : alg x s + s ≤ 16) (hy : alg y s + s ≤ 16) {Q : Int32 → Prop}
    (ht : uni (dk f) s (alg x s) (alg y s) = true → Q (nI s)) (hf : uni (dk f) s (alg x s) (alg y s) = false → wl_Gr_sideOfBlock_3 f (nI x) (nI y) Q n (nI (s / 2))) : wl_Gr_sideOfBlock_3 f (nI x) (nI y) Q (n + 1) (nI s) := by
  rw [wl_Gr_sideOfBlock_3]
  refine ⟨fun q => absurd q (nI_ge (b := s) (a := 1) h1 (by omega)), fun _ => ?_⟩
  rw [ex, ey]
  refine s_sign (by omega) hx hy ⟨fun q x3 e3 => ?_, fun q => ?_⟩
  · have e3' : x3 = nI (s / 2) := by rw [e3]; exact pk_div (a := s) (d := 2) (by omega) (by omega) (by omega)
    rw [e3']
    exact hf (sgn_2.mp q)
  · refine ht ?_
    cases hu : uni (dk f) s (alg x s) (alg y s)
    · exact absurd (sgn_2.mpr hu) q
    · rfl
theorem s_side {f : IA} {x y : Nat} (hx : x < 16) (hy : y < 16) {Q : Int32 → Prop} (hQ : Q (nI (sideF (dk f) x y))) : wp_Gr_sideOfBlock f (nI x) (nI y) Q := by
  unfold wp_Gr_sideOfBlock
  unfold sideF at hQ
  refine ⟨5, sideL (s := 16) (by omega) (by omega) (an16 x hx) (an16 y hy) (al16 x hx) (al16 y hy) (fun h => by rw [if_pos h] at hQ; exact hQ) (fun h => ?_)⟩
  rw [if_neg (by rw [h]; decide)] at hQ
  refine sideL (s := 8) (by omega) (by omega) (an8 x hx) (an8 y hy) (al8 x hx) (al8 y hy) (fun h => by rw [if_pos h] at hQ; exact hQ) (fun h => ?_)
  rw [if_neg (by rw [h]; decide)] at hQ
  refine sideL (s := 4) (by omega) (by omega) (an4 x hx) (an4 y hy) (al4 x hx) (al4 y hy) (fun h => by rw [if_pos h] at hQ; exact hQ) (fun h => ?_)
  rw [if_neg (by rw [h]; decide)] at hQ
  refine sideL (s := 2) (by omega) (by omega) (an2 x hx) (an2 y hy) (al2 x hx) (al2 y hy) (fun h => by rw [if_pos h] at hQ; exact hQ) (fun h => ?_)
  rw [if_neg (by rw [h]; decide)] at hQ
  show wl_Gr_sideOfBlock_3 f (nI x) (nI y) Q (0 + 1) (nI 1)
  rw [wl_Gr_sideOfBlock_3]
  exact ⟨fun _ => hQ, fun q => absurd (by decide) q⟩
theorem dal {x s : Nat} (hx : x < 16) (h1 : 0 < s) (hs : s ≤ 16) : nI x / nI s * nI s = nI (alg x s) := by
  rw [pk_div (by omega) h1 (by omega), pk_mul]
  rfl
theorem blkL {rows : IA} {m x y s n : Nat} (hm : m < 4) (hx : x < 16) (hy : y < 16) (h1 : 0 < s) (hs : s ≤ 16) (ax : alg x s + s ≤ 16) (ay : alg y s + s ≤ 16) {K : Int32 → Prop}
    (ht : uni (dk (mg rows m)) s (alg x s) (alg y s) = true → K (nI s)) (hf : uni (dk (mg rows m)) s (alg x s) (alg y s) = false → wl_Md_blockBy_4 rows (nI m) (nI x) (nI y) K n (nI (s / 2))) : wl_Md_blockBy_4 rows (nI m) (nI x) (nI y) K (n + 1) (nI s) := by
  rw [wl_Md_blockBy_4]
  refine ⟨nI_ne0 h1 (by omega), nI_ne0 h1 (by omega), ?_⟩
  rw [dal hx h1 hs, dal hy h1 hs]
  refine t_isBlock hm h1 ax ay ?_
  cases hu : uni (dk (mg rows m)) s (alg x s) (alg y s)
  · rw [if_neg (by decide)]
    refine ⟨fun _ x3 e3 => ?_, fun q => absurd rfl q⟩
    have e3' : x3 = nI (s / 2) := by rw [e3]; exact pk_div (a := s) (d := 2) (by omega) (by omega) (by omega)
    rw [e3']
    exact hf hu
  · rw [if_pos rfl]
    exact ⟨fun q => absurd q (by decide), fun _ => ht hu⟩
theorem t_side {rows : IA} {m x y : Nat} (hm : m < 4) (hx : x < 16) (hy : y < 16) {K : Int32 → Prop} (hK : K (nI (sideF (dk (mg rows m)) x y))) : ∃ k, wl_Md_blockBy_4 rows (nI m) (nI x) (nI y) K k 16 := by
  unfold sideF at hK
  refine ⟨5, blkL (s := 16) hm hx hy (by omega) (by omega) (al16 x hx) (al16 y hy) (fun h => by rw [if_pos h] at hK; exact hK) (fun h => ?_)⟩
  rw [if_neg (by rw [h]; decide)] at hK
  refine blkL (s := 8) hm hx hy (by omega) (by omega) (al8 x hx) (al8 y hy) (fun h => by rw [if_pos h] at hK; exact hK) (fun h => ?_)
  rw [if_neg (by rw [h]; decide)] at hK
  refine blkL (s := 4) hm hx hy (by omega) (by omega) (al4 x hx) (al4 y hy) (fun h => by rw [if_pos h] at hK; exact hK) (fun h => ?_)
  rw [if_neg (by rw [h]; decide)] at hK
  refine blkL (s := 2) hm hx hy (by omega) (by omega) (al2 x hx) (al2 y hy) (fun h => by rw [if_pos h] at hK; exact hK) (fun h => ?_)
  rw [if_neg (by rw [h]; decide)] at hK
  refine blkL (s := 1) (n := 0) hm hx hy (by omega) (by omega) (al1 x hx) (al1 y hy) (fun _ => hK) (fun h => ?_)
  rw [uni_1] at h
  exact absurd h (by decide)
theorem side_cases (d : Nat → Nat → Bool) (x y : Nat) : sideF d x y = 16 ∨ sideF d x y = 8 ∨ sideF d x y = 4 ∨ sideF d x y = 2 ∨ sideF d x y = 1 := by
  unfold sideF
  split
  · omega
  · split
    · omega
    · split
      · omega
      · split
        · omega
        · omega
/-- what a block's figure is -/
def blockF (d : Nat → Nat → Bool) (x y : Nat) (w : Int32) : Int32 := if w = 0 then nI (alg x (sideF d x y)) else if w = 1 then nI (alg y (sideF d x y)) else nI (sideF d x y)
theorem an_side {x : Nat} (hx : x < 16) (d : Nat → Nat → Bool) (a b : Nat) : nI x &&& (-(nI (sideF d a b))) = nI (alg x (sideF d a b)) := by
  rcases side_cases d a b with h | h | h | h | h
  · rw [h]; exact an16 x hx
  · rw [h]; exact an8 x hx
  · rw [h]; exact an4 x hx
  · rw [h]; exact an2 x hx
  · rw [h]; exact an1 x hx
theorem qt_block {rows : IA} {m x y : Nat} (hm : m < 4) (hx : x < 16) (hy : y < 16) (w : Int32) {Q : Int32 → Prop} (hQ : Q (blockF (dk (mg rows m)) x y w)) : wp_Md_blockBy rows (nI m) (nI x) (nI y) w Q := by
  unfold wp_Md_blockBy
  refine t_side hm hx hy ?_
  unfold wx_Md_blockBy_37
  unfold blockF at hQ
  have hs : 0 < sideF (dk (mg rows m)) x y ∧ sideF (dk (mg rows m)) x y ≤ 16 := by
    have := side_cases (dk (mg rows m)) x y
    omega
  have hn : ¬ nI (sideF (dk (mg rows m)) x y) = 0 := nI_ne0 hs.1 (by omega)
  rw [dal hx hs.1 hs.2, dal hy hs.1 hs.2]
  refine ⟨fun h => ⟨hn, ?_⟩, fun h => ⟨fun h1 => ⟨hn, ?_⟩, fun h1 => ?_⟩⟩
  · rw [if_pos h] at hQ; exact hQ
  · rw [if_neg h, if_pos h1] at hQ; exact hQ
  · rw [if_neg h, if_neg h1] at hQ; exact hQ
theorem qs_block {f : IA} {x y : Nat} (hx : x < 16) (hy : y < 16) (w : Int32) {Q : Int32 → Prop} (hQ : Q (blockF (dk f) x y w)) : wp_Gr_sideOfBlock f (nI x) (nI y) (fun r_4 => (w = 0 → (Q (nI x &&& (-r_4)))) ∧ (¬ w = 0 → ((w = 1 → (Q (nI y &&& (-r_4)))) ∧ (¬ w = 1 → (Q r_4))))) := by
  refine s_side hx hy ?_
  rw [an_side hx, an_side hy]
  unfold blockF at hQ
  refine ⟨fun h => ?_, fun h => ⟨fun h1 => ?_, fun h1 => ?_⟩⟩
  · rw [if_pos h] at hQ; exact hQ
  · rw [if_neg h, if_pos h1] at hQ; exact hQ
  · rw [if_neg h, if_neg h1] at hQ; exact hQ
