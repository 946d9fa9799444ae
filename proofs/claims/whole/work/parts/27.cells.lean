/-! Cells by whole numbers; the reference's fresh rows. -/
def dz (f : IA) (x y : Int) : Bool := decide (0 ≤ x ∧ x < 16 ∧ 0 ≤ y ∧ y < 16) && bt (f y.toNat) x.toNat
theorem dz_nat {f : IA} {x y : Nat} : dz f x y = dk f x y := by
  unfold dz dk
  by_cases hx : x < 16
  · by_cases hy : y < 16
    · rw [decide_eq_true (by omega), decide_eq_true hx, decide_eq_true hy]; simp
    · rw [decide_eq_false (by omega), decide_eq_false hy]; simp
  · rw [decide_eq_false (by omega), decide_eq_false hx]; simp
theorem dz_eq {f g : IA} (h : ∀ y, y < 16 → f y = g y) : dz f = dz g := by
  funext x y
  unfold dz
  by_cases q : 0 ≤ x ∧ x < 16 ∧ 0 ≤ y ∧ y < 16
  · rw [h y.toNat (by omega)]
  · rw [decide_eq_false q]; simp
theorem cl_int {x : Int32} (h : 0 ≤ x.toInt) : x.toNatClampNeg = x.toInt.toNat := rfl
theorem e_isDarkZ (f : IA) (x y : Int32) (Q : Int32 → Prop) : wp_Gr_isDark f x y Q ↔ Q (if dz f x.toInt y.toInt then 1 else 0) := by
  rw [e_isDark]
  have e : (vp_in x 16 ∧ vp_in y 16 ∧ bt (f y.toNatClampNeg) x.toNatClampNeg = true) ↔ dz f x.toInt y.toInt = true := by
    unfold dz
    rw [vin, vin, Bool.and_eq_true, decide_eq_true_iff]
    constructor
    · intro h; exact ⟨⟨h.1.1, h.1.2, h.2.1.1, h.2.1.2⟩, h.2.2⟩
    · intro h; exact ⟨⟨h.1.1, h.1.2.1⟩, ⟨h.1.2.2.1, h.1.2.2.2⟩, h.2⟩
  rw [e]
  cases dz f x.toInt y.toInt <;> simp
theorem e_darkZ (rows : IA) {m : Nat} (hm : m < 4) (x y : Int32) (Q : Int32 → Prop) : wp_Md_dark rows (nI m) x y Q ↔ Q (if dz (mg rows m) x.toInt y.toInt then 1 else 0) := by
  rw [e_dark rows hm]
  have e : (vp_in x 16 ∧ vp_in y 16 ∧ bt (mg rows m y.toNatClampNeg) x.toNatClampNeg = true) ↔ dz (mg rows m) x.toInt y.toInt = true := by
    unfold dz
    rw [vin, vin, Bool.and_eq_true, decide_eq_true_iff]
    constructor
    · intro h; exact ⟨⟨h.1.1, h.1.2, h.2.1.1, h.2.1.2⟩, h.2.2⟩
    · intro h; exact ⟨⟨h.1.1, h.1.2.1⟩, ⟨h.1.2.2.1, h.1.2.2.2⟩, h.2⟩
  rw [e]
  cases dz (mg rows m) x.toInt y.toInt <;> simp
theorem t_clears {f : IA} {Q : IA → Prop} (hQ : ∀ f' : IA, (∀ y, y < 16 → f' y = 0) → Q f') : wp_Md_clears f Q := by
  refine lp (fun n i (s : IA) => wl_Md_clears_2 Q n (nI i) s) (fun i s => ∀ y, y < i → s y = 0) 16 f (fun y hy => by omega) (fun n s h => ?_) (fun n i s hi h ih => ?_)
  · rw [wl_Md_clears_2]
    exact ⟨fun _ => hQ s h, fun q => absurd le16 q⟩
  · rw [wl_Md_clears_2]
    refine ⟨fun q => absurd q (ge16 hi), fun _ => ⟨in16 hi, fun f1 e1 => ?_⟩⟩
    subst e1
    rw [nI_1, clN (by omega)]
    refine ih _ (fun y hy => ?_)
    by_cases q : y = i
    · subst q; exact pk_us
    · rw [pk_un q]; exact h y (by omega)
theorem t_starts {rows f : IA} {m : Nat} (hm : m < 4) {Q : IA → Prop} (hQ : ∀ f' : IA, (∀ y, y < 16 → f' y = mg rows m y) → Q f') : wp_Md_starts rows f (nI m) Q := by
  refine lp (fun n i (s : IA) => wl_Md_starts_2 rows (nI m) Q n (nI i) s) (fun i s => ∀ y, y < i → s y = mg rows m y) 16 f (fun y hy => by omega) (fun n s h => ?_) (fun n i s hi h ih => ?_)
  · rw [wl_Md_starts_2]
    exact ⟨fun _ => hQ s h, fun q => absurd le16 q⟩
  · rw [wl_Md_starts_2]
    refine ⟨fun q => absurd q (ge16 hi), fun _ => ?_⟩
    rw [ix64 hm hi, clN (by omega), clN (by omega), nI_1]
    refine ⟨vp_in_nI (by omega) (by omega), in16 hi, fun f1 e1 => ?_⟩
    subst e1
    refine ih _ (fun y hy => ?_)
    by_cases q : y = i
    · subst q; exact pk_us
    · rw [pk_un q]; exact h y (by omega)
/-- one cell of fresh rows -/
def setb (f : IA) (x y : Nat) (s : Bool) : IA := upd f y (((f y) &&& ((jshl 1 (nI x)) ^^^ (-1))) ||| (jshl (if s then 1 else 0) (nI x)))
theorem e_sets (f : IA) {x y : Nat} (hx : x < 16) (hy : y < 16) (s : Bool) (Q : IA → Prop) : wp_Md_sets f (nI x) (nI y) (if s then 1 else 0) Q ↔ Q (setb f x y s) := by
  unfold wp_Md_sets setb
  rw [clN (by omega)]
  exact ⟨fun h => h.2.2 _ rfl, fun h => ⟨in16 hy, in16 hy, fun g e => e ▸ h⟩⟩
theorem setb_bt (f : IA) {x y x' y' : Nat} (hx : x < 16) (s : Bool) (hx' : x' < 32) : bt (setb f x y s y') x' = if y' = y ∧ x' = x then s else bt (f y') x' := by
  unfold setb
  by_cases q : y' = y
  · subst q
    rw [pk_us, b_or, b_and, b_xor, b_one x (by omega) hx', b_m1 x' hx', j_shl x (by omega) _ hx']
    by_cases w : x' = x
    · subst w
      cases s <;> simp [b_0, b_1]
    · have hz : ∀ v : Bool, (decide (x ≤ x') && bt (if v = true then 1 else 0) (x' - x)) = false := by
        intro v
        cases v
        · simp [b_0]
        · by_cases z : x ≤ x'
          · rw [decide_eq_true z, if_pos rfl, b_1 _ (by omega), decide_eq_false (by omega)]; rfl
          · rw [decide_eq_false z]; rfl
      rw [hz s]
      simp [w]
  · rw [pk_un q, if_neg (fun h => q h.1)]
theorem setb_g16 {f : IA} {x y : Nat} (hx : x < 16) (s : Bool) (hf : g16 f) : g16 (setb f x y s) := by
  intro y' hy' i hi
  rcases Nat.lt_or_ge i 32 with q | q
  · rw [setb_bt f hx s q, if_neg (by omega)]
    exact hf y' hy' i hi
  · exact b_big q
/-- rows of bits S -/
def rowsS (f : IA) (S : Nat → Nat → Bool) : Prop := g16 f ∧ ∀ y, y < 16 → ∀ x, x < 16 → bt (f y) x = S x y
theorem rowsS_eq {f g : IA} {S : Nat → Nat → Bool} (hf : rowsS f S) (hg : rowsS g S) : ∀ y, y < 16 → f y = g y := fun y hy => r_ext (hf.1 y hy) (hg.1 y hy) (fun x hx => by rw [hf.2 y hy x hx, hg.2 y hy x hx])
theorem rowsS_dk {f : IA} {S : Nat → Nat → Bool} (hf : rowsS f S) {x y : Nat} (hx : x < 16) (hy : y < 16) : dk f x y = S x y := by rw [dk_in hx hy, hf.2 y hy x hx]
/-- cells set one by one: S the first i, O the rest -/
def cellsI (S O : Nat → Nat → Bool) (i : Nat) (f : IA) : Prop := g16 f ∧ ∀ c, c < 256 → bt (f (c / 16)) (c % 16) = if c < i then S (c % 16) (c / 16) else O (c % 16) (c / 16)
theorem cells_0 {S O : Nat → Nat → Bool} {f : IA} (h : rowsS f O) : cellsI S O 0 f := ⟨h.1, fun c hc => by rw [if_neg (by omega)]; exact h.2 _ (by omega) _ (by omega)⟩
theorem cells_e {S O : Nat → Nat → Bool} {f : IA} (h : cellsI S O 256 f) : rowsS f S := ⟨h.1, fun y hy x hx => by
  have := h.2 (16 * y + x) (by omega)
  rw [if_pos (by omega), show (16 * y + x) / 16 = y by omega, show (16 * y + x) % 16 = x by omega] at this
  exact this⟩
theorem cells_s {S O : Nat → Nat → Bool} {f : IA} {i : Nat} (hi : i < 256) (h : cellsI S O i f) : cellsI S O (i + 1) (setb f (i % 16) (i / 16) (S (i % 16) (i / 16))) := by
  refine ⟨setb_g16 (by omega) _ h.1, fun c hc => ?_⟩
  rw [setb_bt f (by omega) _ (by omega)]
  by_cases q : c = i
  · subst q
    rw [if_pos ⟨rfl, rfl⟩, if_pos (by omega)]
  · rw [if_neg (by omega), h.2 c hc]
    by_cases w : c < i
    · rw [if_pos w, if_pos (by omega)]
    · rw [if_neg w, if_neg (by omega)]
theorem cells_k {S O : Nat → Nat → Bool} {f : IA} {i : Nat} (hi : i < 256) (h : cellsI S O i f) (e : S (i % 16) (i / 16) = O (i % 16) (i / 16)) : cellsI S O (i + 1) f := by
  refine ⟨h.1, fun c hc => ?_⟩
  rw [h.2 c hc]
  by_cases q : c = i
  · subst q
    rw [if_neg (by omega), if_pos (by omega), e]
  · by_cases w : c < i
    · rw [if_pos w, if_pos (by omega)]
    · rw [if_neg w, if_neg (by omega)]
theorem rows0 {f : IA} (h : ∀ y, y < 16 → f y = 0) : rowsS f (fun _ _ => false) := ⟨fun y hy => by rw [h y hy]; exact r16_0, fun y hy x hx => by rw [h y hy]; exact b_0 x⟩
theorem mg_rows {mk : Nat → IA} {rows : IA} (h : MaskOK mk rows) {m : Nat} (hm : m < 4) : ∀ y, y < 16 → mk m y = mg rows m y := (h m hm).2
theorem mg_g16 {mk : Nat → IA} {rows : IA} (h : MaskOK mk rows) {m : Nat} (hm : m < 4) : g16 (mg rows m) := fun y hy => by rw [← mg_rows h hm y hy]; exact (h m hm).1 y hy
