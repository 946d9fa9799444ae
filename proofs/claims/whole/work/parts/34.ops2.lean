/-! Rectangles, moves, turns, dots. -/
theorem mwb : ∀ w, w < 17 → ∀ i, i < 32 → bt (jshl 1 (nI w) - 1) i = decide (i < w) := by decide +kernel
theorem mbits {w x i : Nat} (hw : w ≤ 16) (hx : x < 16) (hi : i < 32) : bt (jshl (jshl 1 (nI w) - 1) (nI x)) i = decide (x ≤ i ∧ i < x + w) := by
  rw [j_shl x (by omega) _ hi, mwb w (by omega) _ (by omega)]
  by_cases h : x ≤ i
  · rw [decide_eq_true h, Bool.true_and]
    by_cases h2 : i - x < w
    · rw [decide_eq_true h2, decide_eq_true (by omega)]
    · rw [decide_eq_false h2, decide_eq_false (by omega)]
  · rw [decide_eq_false h, Bool.false_and, decide_eq_false (show ¬ (x ≤ i ∧ i < x + w) by omega)]
def prow (b : Bool) (r m : Int32) : Int32 := (if b then r ||| m else r &&& (m ^^^ (-1))) &&& 65535
theorem prow_bt {b : Bool} {r : Int32} {x w i : Nat} (hw : w ≤ 16) (hx : x < 16) (hi : i < 16) : bt (prow b r (jshl (jshl 1 (nI w) - 1) (nI x))) i = if x ≤ i ∧ i < x + w then b else bt r i := by
  unfold prow
  rw [bm, decide_eq_true hi, Bool.and_true]
  cases b
  · simp only [Bool.false_eq_true, if_false]
    rw [b_and, b_xor, mbits hw hx (by omega), b_m1 i (by omega)]
    by_cases h : x ≤ i ∧ i < x + w
    · simp [h]
    · simp [h]
  · simp only [if_true]
    rw [b_or, mbits hw hx (by omega)]
    by_cases h : x ≤ i ∧ i < x + w
    · simp [h]
    · simp [h]
theorem s_paint {f : IA} {x y w h : Nat} (hx : x < 16) (hy : y < 16) (hw : w ≤ 16) (hh : h ≤ 16) (b : Bool) (hf : g16 f) {Q : IA → Prop}
    (hQ : ∀ f' : IA, rowsS f' (fun X Y => if (x ≤ X ∧ X < x + w) ∧ (y ≤ Y ∧ Y < y + h) then b else bt (f Y) X) → Q f') : wp_Gr_paint f (nI x) (nI y) (nI w) (nI h) (if b then 1 else 0) Q := by
  unfold wp_Gr_paint
  intro m em
  obtain ⟨e, he⟩ : ∃ e, e = min (y + h) 16 := ⟨_, rfl⟩
  have hye : y ≤ e := by omega
  refine pk_loop (fun t i (s : IA) => wl_Gr_paint_12 (nI y) (nI h) (if b then 1 else 0) Q m t (nI i) s) (fun i s => y ≤ i ∧ ∀ Y, Y < 16 → s Y = if y ≤ Y ∧ Y < i then prow b (f Y) m else f Y) e y f hye ⟨Nat.le_refl _, fun Y _ => by rw [if_neg (by omega)]⟩ (fun t s hs => ?_) (fun t i s hi hs ih => ?_)
  · have fin : Q s := by
      refine hQ s ⟨fun Y hY => ?_, fun Y hY X hX => ?_⟩
      · rw [hs.2 Y hY]
        by_cases q : y ≤ Y ∧ Y < e
        · rw [if_pos q]; exact r16_mask _
        · rw [if_neg q]; exact hf Y hY
      · show bt (s Y) X = if (x ≤ X ∧ X < x + w) ∧ (y ≤ Y ∧ Y < y + h) then b else bt (f Y) X
        rw [hs.2 Y hY]
        by_cases q : y ≤ Y ∧ Y < e
        · rw [if_pos q, em, prow_bt hw hx hX]
          by_cases q2 : x ≤ X ∧ X < x + w
          · rw [if_pos q2, if_pos ⟨q2, by omega⟩]
          · rw [if_neg q2, if_neg (fun z => q2 z.1)]
        · rw [if_neg q, if_neg (fun z => q (by omega))]
    rw [wl_Gr_paint_12]
    refine ⟨fun _ => fin, fun q => ⟨fun _ => fin, fun q2 => ?_⟩⟩
    exfalso
    rw [nI_add] at q
    rcases Nat.lt_or_ge e 16 with z | z
    · exact q (nI_le (by omega) (by omega))
    · exact q2 (by rw [show e = 16 by omega]; exact le16)
  · rw [wl_Gr_paint_12]
    have hi16 : i < 16 := by omega
    refine ⟨fun q => ?_, fun _ => ⟨fun q => absurd q (ge16 hi16), fun _ => ?_⟩⟩
    · rw [nI_add] at q
      exact absurd q (nI_ge (by omega) (by omega))
    · have key : ∀ v, v &&& 65535 = prow b (f i) m → wj_Gr_paint_60 (nI i) s (wl_Gr_paint_12 (nI y) (nI h) (if b then 1 else 0) Q m t) v := by
        intro v ev
        unfold wj_Gr_paint_60
        rw [e_setRow, clN (by omega), nI_1, ev]
        refine ⟨fun _ => ih _ ⟨by omega, fun Y hY => ?_⟩, fun q => absurd (in16 hi16) q⟩
        by_cases q : Y = i
        · subst q; rw [pk_us, if_pos (by omega)]
        · rw [pk_un q, hs.2 Y hY]
          by_cases z : y ≤ Y ∧ Y < i
          · rw [if_pos z, if_pos (by omega)]
          · rw [if_neg z, if_neg (by omega)]
      have er : s i = f i := by rw [hs.2 i hi16, if_neg (by omega)]
      dsimp only [jn]
      refine ⟨fun q => ?_, fun q => ?_⟩
      · rw [e_row, clN (by omega), er]
        refine ⟨fun _ => key _ ?_, fun z => absurd (in16 hi16) z⟩
        unfold prow
        cases b
        · exact absurd q (by decide)
        · rfl
      · rw [e_row, clN (by omega), er]
        refine ⟨fun _ => key _ ?_, fun z => absurd (in16 hi16) z⟩
        unfold prow
        cases b
        · rfl
        · exact absurd rfl q
theorem sub1_t {a : Nat} (h : a < 1073741824) : (nI a - 1).toInt = (a : Int) - 1 := pk_sub_toInt (a := a) (b := 1) (by omega) (by omega)
theorem t_fillL {fresh : IA} {O : Nat → Nat → Bool} {x y w h : Nat} (hx : x < 16) (hy : y < 16) (hw : w ≤ 16) (hh : h ≤ 16) (b : Bool) (hf : rowsS fresh O) {K : Int32 → IA → Prop}
    (hK : ∀ f' : IA, rowsS f' (fun X Y => if (x ≤ X ∧ X < x + w) ∧ (y ≤ Y ∧ Y < y + h) then b else O X Y) → K (nI 256) f') : ∃ k, wl_Md_fill_60 (nI x) (nI y) (nI w) (nI h) (if b then 1 else 0) K k 0 fresh := by
  obtain ⟨S, eS⟩ : ∃ S : Nat → Nat → Bool, S = fun X Y => if (x ≤ X ∧ X < x + w) ∧ (y ≤ Y ∧ Y < y + h) then b else O X Y := ⟨_, rfl⟩
  rw [← eS] at hK
  refine lp (fun n i (s : IA) => wl_Md_fill_60 (nI x) (nI y) (nI w) (nI h) (if b then 1 else 0) K n (nI i) s) (fun i s => cellsI S O i s) 256 fresh (cells_0 hf) (fun n s hs => ?_) (fun n i s hi hs ih => ?_)
  · rw [wl_Md_fill_60]
    exact ⟨fun _ => hK s (cells_e hs), fun q => absurd le256 q⟩
  · rw [wl_Md_fill_60]
    refine ⟨fun q => absurd q (ge256 hi), fun _ => ?_⟩
    rw [r16d hi, d16d hi, nI_add, nI_add, nI_1, e_in, t64, t64, t64, sub1_t (by omega), n_t (by omega), n_t (by omega)]
    have kp : (S (i % 16) (i / 16) = O (i % 16) (i / 16)) → wl_Md_fill_60 (nI x) (nI y) (nI w) (nI h) (if b then 1 else 0) K n (nI (i + 1)) s := fun e => ih _ (cells_k hi hs e)
    refine ⟨fun q => ?_, fun q => ?_⟩
    · dsimp only [jn]
      rw [br1, e_in, t64, t64, t64, sub1_t (by omega), n_t (by omega), n_t (by omega)]
      refine ⟨fun q2 => ?_, fun q2 => ?_⟩
      · rw [br1, e_sets s (by omega) (by omega)]
        have e : S (i % 16) (i / 16) = b := by rw [eS]; exact if_pos (by omega)
        have hc := cells_s hi hs
        rw [e] at hc
        exact ih _ hc
      · rw [br0]
        refine kp ?_
        rw [eS]
        exact if_neg (by omega)
    · dsimp only [jn]
      rw [br0]
      refine kp ?_
      rw [eS]
      exact if_neg (by omega)
theorem e_isMove (a : Int32) (Q : Int32 → Prop) : wp_Qm_isMove a Q ↔ ((-16 ≤ a.toInt ∧ a.toInt ≤ 16 → Q 1) ∧ (¬ (-16 ≤ a.toInt ∧ a.toInt ≤ 16) → Q 0)) := by
  unfold wp_Qm_isMove
  rw [i_lt, i_lt]
  have h0 : (-16 : Int32).toInt = -16 := rfl
  have h1 : (16 : Int32).toInt = 16 := rfl
  rw [h0, h1]
  constructor
  · intro h
    refine ⟨fun q => (h.2 (by omega)).2 (by omega), fun q => ?_⟩
    by_cases h2 : a.toInt < -16
    · exact h.1 h2
    · exact (h.2 h2).1 (by omega)
  · intro h
    exact ⟨fun q => h.2 (by omega), fun q => ⟨fun q2 => h.2 (by omega), fun q2 => h.1 (by omega)⟩⟩
theorem f_isMove (a : Int32) (Q : Int32 → Prop) : wp_Md_in (Int32.toInt64 a) (-16) 16 Q ↔ ((-16 ≤ a.toInt ∧ a.toInt ≤ 16 → Q 1) ∧ (¬ (-16 ≤ a.toInt ∧ a.toInt ≤ 16) → Q 0)) := by
  rw [e_in, t64]
  have h0 : (-16 : Int64).toInt = -16 := rfl
  have h1 : (16 : Int64).toInt = 16 := rfl
  rw [h0, h1]
theorem sub_t {x : Nat} (hx : x < 65536) {d : Int32} (h1 : -65536 ≤ d.toInt) (h2 : d.toInt ≤ 65536) : (nI x - d).toInt = (x : Int) - d.toInt := by
  have e := n_t (n := x) (by omega)
  rw [fb_subI (by omega) (by omega), e]
theorem dz_def {f : IA} {x y : Int} : dz f x y = (decide (0 ≤ x ∧ x < 16 ∧ 0 ≤ y ∧ y < 16) && bt (f y.toNat) x.toNat) := rfl
theorem s_moveL {mk : Nat → IA} {md : IA} {a : Nat} (ha : a < 4) (ga : g16 (mk a)) {dx dy : Int32} (hx : -16 ≤ dx.toInt ∧ dx.toInt ≤ 16) (hy : -16 ≤ dy.toInt ∧ dy.toInt ≤ 16) {K : Int32 → IA → Prop}
    (hK : ∀ f' : IA, rowsS f' (fun X Y => dz (mk a) ((X : Int) - dx.toInt) ((Y : Int) - dy.toInt)) → K (nI 16) f') : ∃ n, wl_Qm_move_35 mk (nI a) dx dy K n 0 md := by
  refine lp (fun n i (s : IA) => wl_Qm_move_35 mk (nI a) dx dy K n (nI i) s) (fun i s => ∀ Y, Y < i → r16 (s Y) ∧ ∀ X, X < 16 → bt (s Y) X = dz (mk a) ((X : Int) - dx.toInt) ((Y : Int) - dy.toInt)) 16 md (fun y hy => by omega) (fun n s h => ?_) (fun n i s hi h ih => ?_)
  · rw [wl_Qm_move_35]
    exact ⟨fun _ => hK s ⟨fun Y hY => (h Y hY).1, fun Y hY X hX => (h Y hY).2 X hX⟩, fun q => absurd le16 q⟩
  · rw [wl_Qm_move_35]
    refine ⟨fun q => absurd q (ge16 hi), fun _ => ⟨vp_in_nI ha (by omega), ?_⟩⟩
    have et := sub_t (x := i) (by omega) (d := dy) (by omega) (by omega)
    have key : ∀ r : Int32, (∀ X : Nat, X < 32 → bt r X = (decide (0 ≤ (i : Int) - dy.toInt ∧ (i : Int) - dy.toInt < 16 ∧ X < 16) && bt (mk a ((i : Int) - dy.toInt).toNat) X)) → jn (wj_Qm_move_79 (nI i) s (wl_Qm_move_35 mk (nI a) dx dy K n)) (fun K_1 : Int32 → Prop => (0 ≤ dx → (K_1 (jshl r dx))) ∧ (¬ 0 ≤ dx → (K_1 (jush r (-dx))))) := by
      intro r hr
      have fin : ∀ v : Int32, (∀ X, X < 16 → bt v X = dz (mk a) ((X : Int) - dx.toInt) ((i : Int) - dy.toInt)) → wj_Qm_move_79 (nI i) s (wl_Qm_move_35 mk (nI a) dx dy K n) v := by
        intro v hv
        unfold wj_Qm_move_79
        rw [e_setRow, clN (by omega), nI_1]
        refine ⟨fun _ => ih _ (fun Y hY => ?_), fun q => absurd (in16 hi) q⟩
        by_cases q : Y = i
        · subst q
          rw [pk_us]
          refine ⟨r16_mask _, fun X hX => ?_⟩
          rw [bm, decide_eq_true hX, Bool.and_true]
          exact hv X hX
        · rw [pk_un q]; exact h Y (by omega)
      dsimp only [jn]
      refine ⟨fun q => fin _ (fun X hX => ?_), fun q => fin _ (fun X hX => ?_)⟩
      · rw [i_le] at q
        have q : 0 ≤ dx.toInt := q
        obtain ⟨d, hd, rfl⟩ := vp_in_of (x := dx) (n := 17) (by rw [vin]; omega) (by omega)
        rw [n_t (by omega), j_shl d (by omega) _ (by omega), dz_def]
        by_cases z : d ≤ X
        · rw [decide_eq_true z, Bool.true_and, hr _ (by omega)]
          have e : ((X : Int) - (d : Int)).toNat = X - d := by omega
          rw [e]
          by_cases z2 : 0 ≤ (i : Int) - dy.toInt ∧ (i : Int) - dy.toInt < 16
          · rw [decide_eq_true (by omega), decide_eq_true (by omega)]
          · rw [decide_eq_false (by omega), decide_eq_false (by omega)]
        · rw [decide_eq_false z, decide_eq_false (by omega)]; rfl
      · rw [i_le] at q
        have q : ¬ 0 ≤ dx.toInt := q
        have en : (-dx).toInt = -dx.toInt := fb_negI (by omega)
        obtain ⟨d, hd, e1⟩ := vp_in_of (x := -dx) (n := 17) (by rw [vin]; omega) (by omega)
        have ed : (d : Int) = -dx.toInt := by rw [← en, e1, n_t (by omega)]
        rw [e1, j_ush d (by omega), dz_def]
        by_cases z : d + X < 32
        · rw [hr _ z]
          have e : ((X : Int) - dx.toInt).toNat = d + X := by omega
          rw [e]
          by_cases z2 : 0 ≤ (i : Int) - dy.toInt ∧ (i : Int) - dy.toInt < 16 ∧ d + X < 16
          · rw [decide_eq_true z2, decide_eq_true (by omega)]
          · rw [decide_eq_false z2, decide_eq_false (by omega)]
        · omega
    rw [e_row, vin, et, clN (by omega)]
    refine ⟨fun q => ?_, fun q => ?_⟩
    · refine key _ (fun X hX => ?_)
      have ec : (nI i - dy).toNatClampNeg = ((i : Int) - dy.toInt).toNat := by
        show (nI i - dy).toInt.toNat = _
        rw [et]
      rw [ec]
      by_cases z : X < 16
      · rw [decide_eq_true (by omega), Bool.true_and]
      · rw [decide_eq_false (by omega), Bool.false_and]
        exact ga _ (by omega) X (by omega)
    · refine key _ (fun X hX => ?_)
      rw [b_0, decide_eq_false (by omega), Bool.false_and]
theorem t_moveL {rows fresh : IA} {a : Nat} (ha : a < 4) {dx dy : Int32} (hx : -16 ≤ dx.toInt ∧ dx.toInt ≤ 16) (hy : -16 ≤ dy.toInt ∧ dy.toInt ≤ 16) (hf : rowsS fresh (fun _ _ => false)) {K : Int32 → IA → Prop}
    (hK : ∀ f' : IA, rowsS f' (fun X Y => dz (mg rows a) ((X : Int) - dx.toInt) ((Y : Int) - dy.toInt)) → K (nI 256) f') : ∃ n, wl_Md_move_53 rows (nI a) dx dy K n 0 fresh := by
  obtain ⟨S, eS⟩ : ∃ S : Nat → Nat → Bool, S = fun (X Y : Nat) => dz (mg rows a) ((X : Int) - dx.toInt) ((Y : Int) - dy.toInt) := ⟨_, rfl⟩
  rw [← eS] at hK
  refine lp (fun n i (s : IA) => wl_Md_move_53 rows (nI a) dx dy K n (nI i) s) (fun i s => cellsI S (fun _ _ => false) i s) 256 fresh (cells_0 hf) (fun n s hs => ?_) (fun n i s hi hs ih => ?_)
  · rw [wl_Md_move_53]
    exact ⟨fun _ => hK s (cells_e hs), fun q => absurd le256 q⟩
  · rw [wl_Md_move_53]
    refine ⟨fun q => absurd q (ge256 hi), fun _ => ?_⟩
    rw [r16d hi, d16d hi, nI_1, e_darkZ rows ha, sub_t (by omega) (by omega) (by omega), sub_t (by omega) (by omega) (by omega), e_sets s (by omega) (by omega)]
    have e : dz (mg rows a) (((i % 16 : Nat) : Int) - dx.toInt) (((i / 16 : Nat) : Int) - dy.toInt) = S (i % 16) (i / 16) := by rw [eS]
    rw [e]
    exact ih _ (cells_s hi hs)
/-! turns -/
def rotS : Nat → (Nat → Nat → Bool) → Nat → Nat → Bool
  | 0, d => d
  | t + 1, d => fun X Y => rotS t d Y (15 - X)
theorem s_turnR {f g : IA} (hg : g16 g) {Q : IA → Prop} (hQ : ∀ f' : IA, rowsS f' (fun X Y => dk g Y (15 - X)) → Q f') : wp_Gr_takeTurnedRight f g Q := by
  refine lp (fun n i (s : IA) => wl_Gr_takeTurnedRight_2 g Q n (nI i) s) (fun i s => ∀ Y, Y < i → r16 (s Y) ∧ ∀ X, X < 16 → bt (s Y) X = dk g Y (15 - X)) 16 f (fun y hy => by omega) (fun n s h => ?_) (fun n i s hi h ih => ?_)
  · rw [wl_Gr_takeTurnedRight_2]
    exact ⟨fun _ => hQ s ⟨fun Y hY => (h Y hY).1, fun Y hY X hX => (h Y hY).2 X hX⟩, fun q => absurd le16 q⟩
  · rw [wl_Gr_takeTurnedRight_2]
    refine ⟨fun q => absurd q (ge16 hi), fun _ => ?_⟩
    refine lp (fun n2 j (v : Int32) => wl_Gr_takeTurnedRight_13 g (nI i) (wx_Gr_takeTurnedRight_46 (nI i) s (wl_Gr_takeTurnedRight_2 g Q n)) n2 (nI j) v) (fun j v => ∀ X, X < 32 → bt v X = (decide (X < j) && dk g i (15 - X))) 16 0 (fun X hX => by rw [b_0]; simp) (fun n2 v hv => ?_) (fun n2 j v hj hv ih2 => ?_)
    · rw [wl_Gr_takeTurnedRight_13]
      refine ⟨fun _ => ?_, fun q => absurd le16 q⟩
      unfold wx_Gr_takeTurnedRight_46
      rw [clN (by omega), nI_1]
      refine ⟨in16 hi, fun f1 e1 => ?_⟩
      subst e1
      refine ih _ (fun Y hY => ?_)
      by_cases q : Y = i
      · subst q
        rw [pk_us]
        refine ⟨fun X hX => ?_, fun X hX => ?_⟩
        · rcases Nat.lt_or_ge X 32 with z | z
          · rw [hv X z, decide_eq_false (by omega)]; rfl
          · exact b_big z
        · rw [hv X (by omega), decide_eq_true hX, Bool.true_and]
      · rw [pk_un q]; exact h Y (by omega)
    · rw [wl_Gr_takeTurnedRight_13]
      refine ⟨fun q => absurd q (ge16 hj), fun _ => ?_⟩
      have e15 : (15 : Int32) - nI j = nI (15 - j) := pk_sub (a := 15) (by omega)
      rw [e15, e_isDarkZ, n_t (by omega), n_t (by omega), dz_nat]
      dsimp only [jn]
      cases hb : dk g i (15 - j)
      · rw [if_neg (show ¬ (false = true) by decide), br0, nI_1]
        refine ih2 _ (fun X hX => ?_)
        rw [hv X hX]
        by_cases q : X = j
        · subst q; rw [hb, Bool.and_false, Bool.and_false]
        · by_cases z : X < j
          · rw [decide_eq_true z, decide_eq_true (by omega)]
          · rw [decide_eq_false z, decide_eq_false (by omega)]
      · rw [if_pos rfl, br1, nI_1]
        intro v2 ev2
        refine ih2 _ (fun X hX => ?_)
        rw [ev2, b_or, hv X hX, b_one j (by omega) hX]
        by_cases q : X = j
        · subst q; rw [hb]; simp
        · by_cases z : X < j
          · rw [decide_eq_true z, decide_eq_true (show X < j + 1 by omega), decide_eq_false q, Bool.or_false]
          · rw [decide_eq_false z, decide_eq_false (show ¬ X < j + 1 by omega), decide_eq_false q]; rfl
theorem rowsS_congr {f : IA} {S S' : Nat → Nat → Bool} (h : rowsS f S) (e : ∀ x y, x < 16 → y < 16 → S x y = S' x y) : rowsS f S' := ⟨h.1, fun y hy x hx => by rw [h.2 y hy x hx, e x y hx hy]⟩
theorem rowsS_rows {f g : IA} {S : Nat → Nat → Bool} (h : rowsS f S) (e : ∀ y, y < 16 → g y = f y) : rowsS g S := ⟨fun y hy => by rw [e y hy]; exact h.1 y hy, fun y hy x hx => by rw [e y hy]; exact h.2 y hy x hx⟩
theorem rowsS_self {f : IA} (h : g16 f) : rowsS f (dk f) := ⟨h, fun y hy x hx => (dk_in hx hy).symm⟩
theorem ge_nn {i n : Nat} (h : i < n) (hn : n < 2147483648) : ¬ nI n ≤ nI i := nI_ge h hn
theorem s_turnL {md sp : IA} {d : Nat → Nat → Bool} {t : Nat} (ht : t < 4) (hm : rowsS md d) {K : Int32 → IA → IA → Prop} (hK : ∀ md' sp' : IA, rowsS md' (rotS t d) → K (nI t) md' sp') : ∃ n, wl_Qm_turn_41 (nI t) K n 0 md sp := by
  refine lp (fun n i (s : IA × IA) => wl_Qm_turn_41 (nI t) K n (nI i) s.1 s.2) (fun i s => rowsS s.1 (rotS i d)) t (md, sp) hm (fun n s h => ?_) (fun n i s hi h ih => ?_)
  · rw [wl_Qm_turn_41]
    exact ⟨fun _ => hK _ _ h, fun q => absurd (nI_le (Nat.le_refl t) (by omega)) q⟩
  · rw [wl_Qm_turn_41]
    refine ⟨fun q => absurd q (ge_nn hi (by omega)), fun _ => ?_⟩
    refine s_turnR h.1 (fun f1 h1 => s_take (fun f2 h2 => ?_))
    rw [nI_1]
    refine ih (f2, f1) (rowsS_rows (rowsS_congr h1 (fun x y hx hy => ?_)) h2)
    exact rowsS_dk h (by omega) (by omega)
def rt : Nat → Nat × Nat → Nat × Nat
  | 0, c => c
  | t + 1, c => (15 - (rt t c).2, (rt t c).1)
def ri : Nat → Nat × Nat → Nat × Nat
  | 0, c => c
  | t + 1, c => ri t (c.2, 15 - c.1)
theorem rt_in {c : Nat × Nat} (hc : c.1 < 16 ∧ c.2 < 16) : ∀ t, (rt t c).1 < 16 ∧ (rt t c).2 < 16
  | 0 => hc
  | t + 1 => ⟨by show 15 - _ < 16; omega, (rt_in hc t).1⟩
theorem ri_in : ∀ (t : Nat) (c : Nat × Nat), c.1 < 16 ∧ c.2 < 16 → (ri t c).1 < 16 ∧ (ri t c).2 < 16
  | 0, _, hc => hc
  | t + 1, c, hc => ri_in t _ ⟨hc.2, by show 15 - _ < 16; omega⟩
theorem rt_ri : ∀ (t : Nat) (c : Nat × Nat), c.1 < 16 ∧ c.2 < 16 → rt t (ri t c) = c
  | 0, _, _ => rfl
  | t + 1, c, hc => by
    show (15 - (rt t (ri t (c.2, 15 - c.1))).2, (rt t (ri t (c.2, 15 - c.1))).1) = c
    rw [rt_ri t (c.2, 15 - c.1) ⟨hc.2, by show 15 - _ < 16; omega⟩]
    show (15 - (15 - c.1), c.2) = c
    rw [show 15 - (15 - c.1) = c.1 by omega]
theorem rt_inj {c c' : Nat × Nat} (hc : c.1 < 16 ∧ c.2 < 16) (hc' : c'.1 < 16 ∧ c'.2 < 16) : ∀ t, rt t c = rt t c' → c = c'
  | 0, h => h
  | t + 1, h => by
    refine rt_inj hc hc' t ?_
    have h1 : 15 - (rt t c).2 = 15 - (rt t c').2 := congrArg Prod.fst h
    have h2 : (rt t c).1 = (rt t c').1 := congrArg Prod.snd h
    have b1 := (rt_in hc t).2
    have b2 := (rt_in hc' t).2
    exact Prod.ext h2 (by omega)
theorem rot_ri (d : Nat → Nat → Bool) : ∀ (t X Y : Nat), rotS t d X Y = d (ri t (X, Y)).1 (ri t (X, Y)).2
  | 0, _, _ => rfl
  | t + 1, X, Y => rot_ri d t Y (15 - X)
theorem t_turnIn {t x y : Nat} (ht : t < 4) (hx : x < 16) (hy : y < 16) {K : Int32 → Int32 → Int32 → Prop} (hK : K (nI t) (nI (rt t (x, y)).2) (nI (rt t (x, y)).1)) : ∃ k, wl_Md_turn_61 (nI t) K k 0 (nI y) (nI x) := by
  refine lp (fun n i (s : Nat × Nat) => wl_Md_turn_61 (nI t) K n (nI i) (nI s.2) (nI s.1)) (fun i s => s = rt i (x, y)) t (x, y) rfl (fun n s h => ?_) (fun n i s hi h ih => ?_)
  · rw [wl_Md_turn_61]
    subst h
    exact ⟨fun _ => hK, fun q => absurd (nI_le (Nat.le_refl t) (by omega)) q⟩
  · rw [wl_Md_turn_61]
    refine ⟨fun q => absurd q (ge_nn hi (by omega)), fun _ v ev => ?_⟩
    have b := (rt_in (c := (x, y)) ⟨hx, hy⟩ i).2
    subst h
    have e15 : (15 : Int32) - nI (rt i (x, y)).2 = nI (15 - (rt i (x, y)).2) := pk_sub (a := 15) (by omega)
    rw [ev, e15, nI_1]
    exact ih (15 - (rt i (x, y)).2, (rt i (x, y)).1) rfl
theorem t_turnL {rows fresh : IA} {a t : Nat} (ha : a < 4) (ht : t < 4) (hf : g16 fresh) {K : Int32 → IA → Prop} (hK : ∀ f' : IA, rowsS f' (rotS t (dk (mg rows a))) → K (nI 256) f') : ∃ n, wl_Md_turn_36 rows (nI a) (nI t) K n 0 fresh := by
  refine lp (fun n i (s : IA) => wl_Md_turn_36 rows (nI a) (nI t) K n (nI i) s) (fun i s => g16 s ∧ ∀ c, c < i → bt (s (rt t (c % 16, c / 16)).2) (rt t (c % 16, c / 16)).1 = dk (mg rows a) (c % 16) (c / 16)) 256 fresh ⟨hf, fun c hc => by omega⟩ (fun n s h => ?_) (fun n i s hi h ih => ?_)
  · rw [wl_Md_turn_36]
    refine ⟨fun _ => hK s ⟨h.1, fun Y hY X hX => ?_⟩, fun q => absurd le256 q⟩
    have b := ri_in t (X, Y) ⟨hX, hY⟩
    have e := h.2 (16 * (ri t (X, Y)).2 + (ri t (X, Y)).1) (by omega)
    rw [show (16 * (ri t (X, Y)).2 + (ri t (X, Y)).1) % 16 = (ri t (X, Y)).1 by omega, show (16 * (ri t (X, Y)).2 + (ri t (X, Y)).1) / 16 = (ri t (X, Y)).2 by omega] at e
    rw [rt_ri t (X, Y) ⟨hX, hY⟩] at e
    rw [rot_ri]
    exact e
  · rw [wl_Md_turn_36]
    refine ⟨fun q => absurd q (ge256 hi), fun _ x5 e5 x6 e6 => ?_⟩
    rw [r16d hi] at e5
    rw [d16d hi] at e6
    subst e5; subst e6
    refine t_turnIn ht (by omega) (by omega) ?_
    unfold wx_Md_turn_88
    have b := rt_in (c := (i % 16, i / 16)) ⟨by show i % 16 < 16; omega, by show i / 16 < 16; omega⟩ t
    rw [r16d hi, d16d hi, nI_1, e_darkN rows ha (by omega) (by omega), e_sets s b.1 b.2]
    refine ih _ ⟨setb_g16 b.1 _ h.1, fun c hc => ?_⟩
    have b2 := rt_in (c := (c % 16, c / 16)) ⟨by show c % 16 < 16; omega, by show c / 16 < 16; omega⟩ t
    rw [setb_bt s b.1 _ (by omega)]
    by_cases q : c = i
    · subst q; rw [if_pos ⟨rfl, rfl⟩]
    · rw [if_neg ?_]
      · exact h.2 c (by omega)
      · intro z
        have e := rt_inj (c := (c % 16, c / 16)) (c' := (i % 16, i / 16)) ⟨by show c % 16 < 16; omega, by show c / 16 < 16; omega⟩ ⟨by show i % 16 < 16; omega, by show i / 16 < 16; omega⟩ t (Prod.ext z.2 z.1)
        have e1 : c % 16 = i % 16 := congrArg Prod.fst e
        have e2 : c / 16 = i / 16 := congrArg Prod.snd e
        omega
/-! dots -/
def dcell (s : Int32) : Nat := (jrem (jush s 16) 256).toNatClampNeg
theorem dcell_ok (s : Int32) : jrem (jush s 16) 256 = nI (dcell s) ∧ dcell s < 256 := by
  have h : ∃ n, n < 65536 ∧ jush s 16 = nI n := by
    have hr : r16 (jush s 16) := fun i hi => by
      rw [show jush s 16 = jush s (nI 16) from rfl, j_ush 16 (by omega)]
      exact b_big (by omega)
    exact r16_of hr
  obtain ⟨n, hn, e⟩ := h
  have e2 : jrem (jush s 16) 256 = nI (n % 256) := by
    rw [e]
    exact pk_rem (a := n) (d := 256) (by omega) (by omega) (by omega)
  unfold dcell
  rw [e2, clN (by omega)]
  exact ⟨rfl, by omega⟩
def sd : Nat → Int32 → Int32
  | 0, s => s
  | k + 1, s => 1103515245 * sd k s + 12345
def flipc (g : IA) (c : Nat) : IA := upd g (c / 16) (g (c / 16) ^^^ jshl 1 (nI (c % 16)))
def dt : Nat → Int32 → IA → IA
  | 0, _, f => f
  | k + 1, s, f => flipc (dt k s f) (dcell (sd (k + 1) s))
theorem r16_one {x : Nat} (hx : x < 16) : r16 (jshl 1 (nI x)) := fun i hi => by
  rcases Nat.lt_or_ge i 32 with q | q
  · rw [b_one x (by omega) q, decide_eq_false (by omega)]
  · exact b_big q
theorem flip_g16 {g : IA} {c : Nat} (hg : g16 g) (hc : c < 256) : g16 (flipc g c) := fun y hy => by
  unfold flipc
  by_cases q : y = c / 16
  · subst q; rw [pk_us]; exact r16_xor (hg _ hy) (r16_one (by omega))
  · rw [pk_un q]; exact hg y hy
theorem dt_g16 {f : IA} (hf : g16 f) (s : Int32) : ∀ k, g16 (dt k s f)
  | 0 => hf
  | k + 1 => flip_g16 (dt_g16 hf s k) (dcell_ok _).2
theorem flip_eq {f g : IA} {c : Nat} (hc : c < 256) (h : ∀ y, y < 16 → f y = g y) : ∀ y, y < 16 → flipc f c y = flipc g c y := fun y hy => by
  unfold flipc
  rw [h (c / 16) (by omega)]
  by_cases q : y = c / 16
  · subst q; rw [pk_us, pk_us]
  · rw [pk_un q, pk_un q]; exact h y hy
theorem s_flip {f : IA} (hf : g16 f) {c : Nat} (hc : c < 256) {Q : IA → Prop} (hQ : ∀ f' : IA, (∀ y, y < 16 → f' y = flipc f c y) → Q f') : wp_Gr_flip f (nI (c % 16)) (nI (c / 16)) Q := by
  unfold wp_Gr_flip
  have h16 := in16 (i := c / 16) (by omega)
  rw [e_row, clN (by omega)]
  refine ⟨fun _ => ?_, fun q => absurd h16 q⟩
  rw [e_setRow, clN (by omega), m16 (r16_xor (hf _ (by omega)) (r16_one (by omega)))]
  exact ⟨fun _ => hQ _ (fun y _ => rfl), fun q => absurd h16 q⟩
theorem s_dotsL {md f0 : IA} {n : Nat} (hn : n < 256) (seed : Int32) (g0 : g16 f0) (hm : ∀ y, y < 16 → md y = f0 y) {K : Int32 → Int32 → IA → Prop} (hK : ∀ (md' : IA) (x : Int32), (∀ y, y < 16 → md' y = dt n seed f0 y) → K (nI n) x md') : ∃ k, wl_Qm_dots_39 (nI n) K k 0 seed md := by
  refine lp (fun t i (s : Int32 × IA) => wl_Qm_dots_39 (nI n) K t (nI i) s.1 s.2) (fun i s => s.1 = sd i seed ∧ ∀ y, y < 16 → s.2 y = dt i seed f0 y) n (seed, md) ⟨rfl, hm⟩ (fun t s h => ?_) (fun t i s hi h ih => ?_)
  · rw [wl_Qm_dots_39]
    exact ⟨fun _ => hK _ _ h.2, fun q => absurd (nI_le (Nat.le_refl n) (by omega)) q⟩
  · rw [wl_Qm_dots_39]
    refine ⟨fun q => absurd q (ge_nn hi (by omega)), fun _ v ev c ec => ?_⟩
    have ev2 : v = sd (i + 1) seed := by rw [ev, h.1]; rfl
    have hc := dcell_ok v
    rw [hc.1] at ec
    subst ec
    rw [r16d hc.2, d16d hc.2, nI_1]
    have gs : g16 s.2 := fun y hy => by rw [h.2 y hy]; exact dt_g16 g0 seed i y hy
    refine s_flip gs hc.2 (fun f' hf' => ih (v, f') ⟨ev2, fun y hy => ?_⟩)
    show f' y = flipc (dt i seed f0) (dcell (sd (i + 1) seed)) y
    rw [hf' y hy, ← ev2]
    exact flip_eq hc.2 h.2 y hy
theorem t_dotsL {fresh f0 : IA} {n : Nat} (hn : n < 256) (seed : Int32) (hm : ∀ y, y < 16 → fresh y = f0 y) {K : Int32 → IA → Int32 → Prop} (hK : ∀ (f' : IA) (x : Int32), (∀ y, y < 16 → f' y = dt n seed f0 y) → K (nI n) f' x) : ∃ k, wl_Md_dots_35 (nI n) K k 0 fresh seed := by
  refine lp (fun t i (s : IA × Int32) => wl_Md_dots_35 (nI n) K t (nI i) s.1 s.2) (fun i s => s.2 = sd i seed ∧ ∀ y, y < 16 → s.1 y = dt i seed f0 y) n (fresh, seed) ⟨rfl, hm⟩ (fun t s h => ?_) (fun t i s hi h ih => ?_)
  · rw [wl_Md_dots_35]
    exact ⟨fun _ => hK _ _ h.2, fun q => absurd (nI_le (Nat.le_refl n) (by omega)) q⟩
  · rw [wl_Md_dots_35]
    refine ⟨fun q => absurd q (ge_nn hi (by omega)), fun _ => ?_⟩
    unfold wp_Md_lot
    intro v ev
    have ev2 : v = sd (i + 1) seed := by rw [ev, h.1]; rfl
    have hc := dcell_ok v
    refine ⟨by decide, ?_⟩
    rw [hc.1]
    dsimp only
    rw [r16d hc.2, d16d hc.2, nI_1, clN (by omega)]
    have h16 := in16 (i := dcell v / 16) (by omega)
    refine ⟨h16, h16, fun f1 e1 => ih (f1, v) ⟨ev2, fun y hy => ?_⟩⟩
    show f1 y = flipc (dt i seed f0) (dcell (sd (i + 1) seed)) y
    rw [e1, ← ev2]
    exact flip_eq hc.2 h.2 y hy
