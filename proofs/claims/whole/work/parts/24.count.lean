/-! Counts of bits, and of cells. -/
theorem r16_of {r : Int32} (h : r16 r) : ∃ n, n < 65536 ∧ r = nI n := by
  obtain ⟨n, hn, e⟩ := nx_mask r
  exact ⟨n, hn, by rw [← e, m16 h]⟩
theorem r16_nI {n : Nat} (h : n < 65536) : r16 (nI n) := by
  have e := nx_m16 h
  rw [← e]
  exact r16_mask _
theorem bt_nI (n i : Nat) (hi : i < 32) : bt (nI n) i = n.testBit i := by
  show (BitVec.ofNat 32 n).getLsbD i = n.testBit i
  rw [BitVec.getLsbD_ofNat, decide_eq_true hi, Bool.true_and]
theorem ush_nI {n : Nat} (h : n < 2147483648) (k : Nat) (hk : k < 32) : jush (nI n) (nI k) = nI (n >>> k) := by
  have hs : n >>> k ≤ n := by
    rw [Nat.shiftRight_eq_div_pow]
    exact Nat.div_le_self _ _
  apply b_ext
  intro i hi
  rw [j_ush k hk, bt_nI _ _ hi, Nat.testBit_shiftRight]
  by_cases q : k + i < 32
  · rw [bt_nI _ _ q]
  · rw [b_big (by omega)]
    symm
    apply Nat.testBit_lt_two_pow
    have : 2147483648 ≤ 2 ^ (k + i) := by
      have := Nat.pow_le_pow_right (n := 2) (by omega) (show 31 ≤ k + i by omega)
      omega
    omega
theorem and_le (a b : Nat) : a &&& b ≤ b := Nat.and_le_right
theorem s_bitCount {r : Int32} (hr : r16 r) {Q : Int32 → Prop} (hQ : Q (nI (fb_ct (bt r) 16))) : wp_In_bitCount r Q := by
  obtain ⟨n, hn, rfl⟩ := r16_of hr
  have hp := pc_ok hn
  intro x1 e1 x2 e2 x3 e3 x4 e4 x5 e5
  have a1 : x1 = nI (n - ((n >>> 1) &&& 1431655765)) := by
    rw [e1, show jush (nI n) 1 = nI (n >>> 1) from ush_nI (by omega) 1 (by omega), show (1431655765 : Int32) = nI 1431655765 from rfl, nx_and, pk_sub hp.2]
  have b1 : n - ((n >>> 1) &&& 1431655765) ≤ n := Nat.sub_le _ _
  generalize hx1 : n - ((n >>> 1) &&& 1431655765) = y1 at a1 b1
  have a2 : x2 = nI ((y1 &&& 858993459) + ((y1 >>> 2) &&& 858993459)) := by
    rw [e2, a1, show jush (nI y1) 2 = nI (y1 >>> 2) from ush_nI (by omega) 2 (by omega), show (858993459 : Int32) = nI 858993459 from rfl, nx_and, nx_and, nI_add]
  have b2 : (y1 &&& 858993459) + ((y1 >>> 2) &&& 858993459) ≤ 2 * n := by
    have q1 : y1 &&& 858993459 ≤ y1 := Nat.and_le_left
    have q2 : (y1 >>> 2) &&& 858993459 ≤ y1 >>> 2 := Nat.and_le_left
    have q3 : y1 >>> 2 ≤ y1 := by rw [Nat.shiftRight_eq_div_pow]; exact Nat.div_le_self _ _
    omega
  generalize hx2 : (y1 &&& 858993459) + ((y1 >>> 2) &&& 858993459) = y2 at a2 b2
  have a3 : x3 = nI ((y2 + (y2 >>> 4)) &&& 252645135) := by
    rw [e3, a2, show jush (nI y2) 4 = nI (y2 >>> 4) from ush_nI (by omega) 4 (by omega), show (252645135 : Int32) = nI 252645135 from rfl, nI_add, nx_and]
  have b3 : (y2 + (y2 >>> 4)) &&& 252645135 ≤ 4 * n := by
    have q1 : (y2 + (y2 >>> 4)) &&& 252645135 ≤ y2 + (y2 >>> 4) := Nat.and_le_left
    have q3 : y2 >>> 4 ≤ y2 := by rw [Nat.shiftRight_eq_div_pow]; exact Nat.div_le_self _ _
    omega
  generalize hx3 : (y2 + (y2 >>> 4)) &&& 252645135 = y3 at a3 b3
  have a4 : x4 = nI (y3 + (y3 >>> 8)) := by
    rw [e4, a3, show jush (nI y3) 8 = nI (y3 >>> 8) from ush_nI (by omega) 8 (by omega), nI_add]
  have b4 : y3 + (y3 >>> 8) ≤ 8 * n := by
    have q3 : y3 >>> 8 ≤ y3 := by rw [Nat.shiftRight_eq_div_pow]; exact Nat.div_le_self _ _
    omega
  generalize hx4 : y3 + (y3 >>> 8) = y4 at a4 b4
  have a5 : x5 = nI (y4 + (y4 >>> 16)) := by
    rw [e5, a4, show jush (nI y4) 16 = nI (y4 >>> 16) from ush_nI (by omega) 16 (by omega), nI_add]
  have hF : pcF n = (y4 + (y4 >>> 16)) &&& 63 := by
    rw [← hx4, ← hx3, ← hx2, ← hx1]; rfl
  have key : x5 &&& 63 = nI (fb_ct (bt (nI n)) 16) := by
    rw [a5, show (63 : Int32) = nI 63 from rfl, nx_and, ← hF, hp.1]
    congr 1
    have tb : ∀ i, i < 16 → (if bt (nI n) i then 1 else 0) = n / 2 ^ i % 2 := by
      intro i hi
      rw [bt_nI n i (by omega), Nat.testBit_eq_decide_div_mod_eq]
      by_cases q : n / 2 ^ i % 2 = 1
      · simp [q]
      · simp [q]; omega
    unfold ct16
    simp only [fb_ct]
    rw [tb 0 (by omega), tb 1 (by omega), tb 2 (by omega), tb 3 (by omega), tb 4 (by omega), tb 5 (by omega), tb 6 (by omega), tb 7 (by omega), tb 8 (by omega), tb 9 (by omega), tb 10 (by omega), tb 11 (by omega), tb 12 (by omega), tb 13 (by omega), tb 14 (by omega), tb 15 (by omega)]
    simp
  rw [key]
  exact hQ
/-- how many cells of a grid are dark -/
def ctg (d : Nat → Nat → Bool) : Nat := fb_ct (fun i => d (i % 16) (i / 16)) 256
theorem ct_rows (p : Nat → Bool) : ∀ k, fb_ct p (16 * k) = fb_sm (fun y => fb_ct (fun x => p (16 * y + x)) 16) k := by
  intro k
  induction k with
  | zero => rfl
  | succ k ih =>
    rw [Nat.mul_succ, fb_ct_split, ih, fb_sm_succ]
theorem ct_grid (d : Nat → Nat → Bool) : ctg d = fb_sm (fun y => fb_ct (fun x => d x y) 16) 16 := by
  unfold ctg
  rw [show (256 : Nat) = 16 * 16 from rfl, ct_rows]
  apply fb_sm_cong
  intro y hy
  apply fb_ct_cong
  intro x hx
  rw [show (16 * y + x) % 16 = x by omega, show (16 * y + x) / 16 = y by omega]
theorem dk_in {f : IA} {x y : Nat} (hx : x < 16) (hy : y < 16) : dk f x y = bt (f y) x := by
  unfold dk
  rw [decide_eq_true hx, decide_eq_true hy, Bool.true_and, Bool.true_and]
theorem dk_out {f : IA} {x y : Nat} (h : ¬ (x < 16 ∧ y < 16)) : dk f x y = false := by
  unfold dk
  by_cases hx : x < 16
  · by_cases hy : y < 16
    · exact absurd ⟨hx, hy⟩ h
    · simp [hy]
  · simp [hx]
theorem dk_eq {f g : IA} (h : ∀ y, y < 16 → f y = g y) : dk f = dk g := by
  funext x y
  unfold dk
  by_cases hy : y < 16
  · rw [h y hy]
  · simp [hy]
theorem s_darkCells {f : IA} (hf : g16 f) {Q : Int32 → Prop} (hQ : Q (nI (ctg (dk f)))) : wp_Gr_darkCells f Q := by
  have e : ctg (dk f) = fb_sm (fun y => fb_ct (bt (f y)) 16) 16 := by
    rw [ct_grid]
    apply fb_sm_cong
    intro y hy
    apply fb_ct_cong
    intro x hx
    exact dk_in hx hy
  rw [e] at hQ
  refine lp (fun n i (s : Int32) => wl_Gr_darkCells_4 f Q n (nI i) s) (fun i s => s = nI (fb_sm (fun y => fb_ct (bt (f y)) 16) i)) 16 0 rfl (fun n s h => ?_) (fun n i s hi h ih => ?_)
  · rw [wl_Gr_darkCells_4]
    subst h
    exact ⟨fun _ => hQ, fun q => absurd le16 q⟩
  · rw [wl_Gr_darkCells_4]
    refine ⟨fun q => absurd q (ge16 hi), fun _ => ⟨in16 hi, ?_⟩⟩
    rw [clN (by omega)]
    refine s_bitCount (hf i hi) ?_
    intro x e
    rw [nI_1]
    refine ih _ ?_
    rw [e, h, nI_add, fb_sm_succ]
theorem s_darkCellsIn {f g : IA} (hf : g16 f) {Q : Int32 → Prop} (hQ : Q (nI (ctg (fun x y => dk f x y && dk g x y)))) : wp_Gr_darkCellsIn f g Q := by
  have e : ctg (fun x y => dk f x y && dk g x y) = fb_sm (fun y => fb_ct (bt (f y &&& g y)) 16) 16 := by
    rw [ct_grid]
    apply fb_sm_cong
    intro y hy
    apply fb_ct_cong
    intro x hx
    rw [dk_in hx hy, dk_in hx hy, b_and]
  rw [e] at hQ
  refine lp (fun n i (s : Int32) => wl_Gr_darkCellsIn_4 f g Q n (nI i) s) (fun i s => s = nI (fb_sm (fun y => fb_ct (bt (f y &&& g y)) 16) i)) 16 0 rfl (fun n s h => ?_) (fun n i s hi h ih => ?_)
  · rw [wl_Gr_darkCellsIn_4]
    subst h
    exact ⟨fun _ => hQ, fun q => absurd le16 q⟩
  · rw [wl_Gr_darkCellsIn_4]
    refine ⟨fun q => absurd q (ge16 hi), fun _ => ⟨in16 hi, in16 hi, ?_⟩⟩
    rw [clN (by omega)]
    refine s_bitCount (r16_and _ (hf i hi)) ?_
    intro x e
    rw [nI_1]
    refine ih _ ?_
    rw [e, h, nI_add, fb_sm_succ]
/-! the reference's cells -/
def mg (rows : IA) (m : Nat) : IA := fun y => rows (16 * m + y)
theorem ix64 {m y : Nat} (hm : m < 4) (hy : y < 16) : (16 : Int32) * nI m + nI y = nI (16 * m + y) := by
  rw [show (16 : Int32) = nI 16 from rfl, pk_mul, nI_add]
theorem e_dark (rows : IA) {m : Nat} (hm : m < 4) (x y : Int32) (Q : Int32 → Prop) : wp_Md_dark rows (nI m) x y Q ↔ ((vp_in x 16 ∧ vp_in y 16 ∧ bt (mg rows m y.toNatClampNeg) x.toNatClampNeg = true → Q 1) ∧ (¬ (vp_in x 16 ∧ vp_in y 16 ∧ bt (mg rows m y.toNatClampNeg) x.toNatClampNeg = true) → Q 0)) := by
  unfold wp_Md_dark
  rw [f_isCell, br1, br0]
  by_cases hx : vp_in x 16
  · by_cases hy : vp_in y 16
    · obtain ⟨a, ha, rfl⟩ := vp_in_of hx (by omega)
      obtain ⟨b, hb, rfl⟩ := vp_in_of hy (by omega)
      rw [ix64 hm hb, clN (by omega), clN (by omega), clN (by omega)]
      have key : jshr (rows (16 * m + b)) (nI a) &&& 1 = if bt (mg rows m b) a then 1 else 0 := by
        rw [and1, j_shr a (by omega) _ (by omega), Nat.add_zero, if_pos (show a < 32 by omega)]
        rfl
      rw [key]
      have hv : vp_in (nI (16 * m + b)) 64 := vp_in_nI (by omega) (by omega)
      cases hbit : bt (mg rows m b) a
      · simp [hx, hy, hv]
      · simp [hx, hy, hv]
    · simp [hy]
  · simp [hx]
theorem r16d {i : Nat} (h : i < 256) : jrem (nI i) 16 = nI (i % 16) := pk_rem (a := i) (d := 16) (by omega) (by omega) (by omega)
theorem d16d {i : Nat} (h : i < 256) : nI i / 16 = nI (i / 16) := pk_div (a := i) (d := 16) (by omega) (by omega) (by omega)
theorem e_darkN (rows : IA) {m : Nat} (hm : m < 4) {x y : Nat} (hx : x < 16) (hy : y < 16) (Q : Int32 → Prop) : wp_Md_dark rows (nI m) (nI x) (nI y) Q ↔ Q (if dk (mg rows m) x y then 1 else 0) := by
  rw [e_dark rows hm, clN (by omega), clN (by omega), dk_in hx hy]
  have h1 := in16 hx
  have h2 := in16 hy
  cases hb : bt (mg rows m y) x <;> simp [h1, h2]
theorem ge256 {i : Nat} (h : i < 256) : ¬ (256 : Int32) ≤ nI i := by
  show ¬ nI 256 ≤ nI i
  exact nI_ge h (by omega)
theorem le256 : (256 : Int32) ≤ nI 256 := by decide
theorem bI (b : Bool) : (if b then (1 : Int32) else 0) = nI (if b then 1 else 0) := by cases b <;> rfl
theorem t_darkOf (rows : IA) {m : Nat} (hm : m < 4) {Q : Int32 → Prop} (hQ : Q (nI (ctg (dk (mg rows m))))) : wp_Md_darkOf rows (nI m) Q := by
  refine lp (fun n i (s : Int32) => wl_Md_darkOf_4 rows (nI m) Q n (nI i) s) (fun i s => s = nI (fb_ct (fun i => dk (mg rows m) (i % 16) (i / 16)) i)) 256 0 rfl (fun n s h => ?_) (fun n i s hi h ih => ?_)
  · rw [wl_Md_darkOf_4]
    subst h
    exact ⟨fun _ => hQ, fun q => absurd le256 q⟩
  · rw [wl_Md_darkOf_4]
    refine ⟨fun q => absurd q (ge256 hi), fun _ => ?_⟩
    rw [r16d hi, d16d hi, e_darkN rows hm (by omega) (by omega)]
    intro x e
    rw [nI_1]
    refine ih _ ?_
    rw [e, h, bI, nI_add, fb_ct_succ]
