/-! The signs of a grid, told one by one. -/
theorem gD_l : ∀ (l1 l2 : List Nat) (i : Nat), i < l1.length → (l1 ++ l2).getD i 0 = l1.getD i 0
  | [], _, i, h => absurd h (Nat.not_lt_zero i)
  | _ :: _, _, 0, _ => rfl
  | _ :: l, l2, i + 1, h => gD_l l l2 i (Nat.lt_of_succ_lt_succ h)
theorem gD_r : ∀ (l1 l2 : List Nat) (i : Nat), (l1 ++ l2).getD (l1.length + i) 0 = l2.getD i 0
  | [], l2, i => by
    rw [show ([] : List Nat).length + i = i from Nat.zero_add i]; rfl
  | a :: l, l2, i => by
    have h := gD_r l l2 i
    have e : (a :: l).length + i = (l.length + i) + 1 := by rw [List.length_cons]; omega
    rw [e]
    exact h
def tells (l : List Nat) (T : Nat) (a b : IA) : Prop := (∀ i, i < T → b i = a i) ∧ ∀ i, i < l.length → b (T + i) = nI (l.getD i 0)
theorem tells_nil (T : Nat) (a : IA) : tells [] T a a := ⟨fun _ _ => rfl, fun i hi => absurd hi (Nat.not_lt_zero i)⟩
theorem tells_one (v T : Nat) (a : IA) : tells [v] T a (upd a T (nI v)) := by
  refine ⟨fun i hi => pk_un (by omega), fun i hi => ?_⟩
  have h : i < 1 := hi
  have h0 : i = 0 := by omega
  subst h0
  exact pk_us
theorem tells_app {l1 l2 : List Nat} {T : Nat} {a b c : IA} (h1 : tells l1 T a b) (h2 : tells l2 (T + l1.length) b c) : tells (l1 ++ l2) T a c := by
  refine ⟨fun i hi => by rw [h2.1 i (by omega), h1.1 i hi], fun i hi => ?_⟩
  rw [List.length_append] at hi
  by_cases q : i < l1.length
  · rw [h2.1 _ (by omega), h1.2 i q, gD_l _ _ _ q]
  · have w := h2.2 (i - l1.length) (by omega)
    have e := gD_r l1 l2 (i - l1.length)
    rw [show T + l1.length + (i - l1.length) = T + i by omega] at w
    rw [show l1.length + (i - l1.length) = i by omega] at e
    rw [w, e]
def ctl (v : Nat) : List Nat → Nat
  | [] => 0
  | a :: l => (if a = v then 1 else 0) + ctl v l
theorem ctl_app (v : Nat) : ∀ a b : List Nat, ctl v (a ++ b) = ctl v a + ctl v b
  | [], b => (Nat.zero_add _).symm
  | x :: a, b => by
    show (if x = v then 1 else 0) + ctl v (a ++ b) = (if x = v then 1 else 0) + ctl v a + ctl v b
    rw [ctl_app v a b, Nat.add_assoc]
theorem ctl_eq (v : Nat) : ∀ l : List Nat, ctl v l = l.count v
  | [] => rfl
  | x :: l => by
    rw [List.count_cons, ← ctl_eq v l]
    show (if x = v then 1 else 0) + ctl v l = _
    by_cases h : x = v
    · simp [h, Nat.add_comm]
    · simp [h]
theorem ctl_le (v : Nat) : ∀ l : List Nat, ctl v l ≤ l.length
  | [] => Nat.le_refl _
  | x :: l => by
    have h := ctl_le v l
    show (if x = v then 1 else 0) + ctl v l ≤ l.length + 1
    by_cases q : x = v
    · rw [if_pos q]; omega
    · rw [if_neg q]; omega
theorem sq_0 (d : Nat → Nat → Bool) (x y : Nat) : sq d 0 x y = [if d x y then 1 else 0] := by rw [sq]
theorem sq_t {d : Nat → Nat → Bool} {L x y : Nat} (h : uni d (2 ^ (L + 1)) x y = true) : sq d (L + 1) x y = [if d x y then 1 else 0] := by rw [sq, if_pos h]
theorem sq_f {d : Nat → Nat → Bool} {L x y : Nat} (h : uni d (2 ^ (L + 1)) x y = false) : sq d (L + 1) x y = 2 :: (sq d L x y ++ (sq d L (x + 2 ^ L) y ++ (sq d L x (y + 2 ^ L) ++ sq d L (x + 2 ^ L) (y + 2 ^ L)))) := by rw [sq, if_neg (by rw [h]; decide)]
theorem dpt_0 (d : Nat → Nat → Bool) (x y : Nat) : dpt d 0 x y = 0 := by rw [dpt]
theorem dpt_t {d : Nat → Nat → Bool} {L x y : Nat} (h : uni d (2 ^ (L + 1)) x y = true) : dpt d (L + 1) x y = 0 := by rw [dpt, if_pos h]
theorem dpt_f {d : Nat → Nat → Bool} {L x y : Nat} (h : uni d (2 ^ (L + 1)) x y = false) : dpt d (L + 1) x y = 1 + max (max (dpt d L x y) (dpt d L (x + 2 ^ L) y)) (max (dpt d L x (y + 2 ^ L)) (dpt d L (x + 2 ^ L) (y + 2 ^ L))) := by rw [dpt, if_neg (by rw [h]; decide)]
theorem dpt_le (d : Nat → Nat → Bool) : ∀ L x y, dpt d L x y ≤ L
  | 0, x, y => by rw [dpt_0]; exact Nat.le_refl 0
  | L + 1, x, y => by
    have h1 := dpt_le d L x y
    have h2 := dpt_le d L (x + 2 ^ L) y
    have h3 := dpt_le d L x (y + 2 ^ L)
    have h4 := dpt_le d L (x + 2 ^ L) (y + 2 ^ L)
    cases hu : uni d (2 ^ (L + 1)) x y
    · rw [dpt_f hu]; omega
    · rw [dpt_t hu]; omega
theorem sq_any {d : Nat → Nat → Bool} {L x y : Nat} (h : uni d (2 ^ L) x y = true) : sq d L x y = [if d x y then 1 else 0] ∧ dpt d L x y = 0 := by
  cases L with
  | zero => exact ⟨sq_0 d x y, dpt_0 d x y⟩
  | succ L => exact ⟨sq_t h, dpt_t h⟩
theorem sq_pos (d : Nat → Nat → Bool) (L x y : Nat) : 0 < (sq d L x y).length := by
  cases L with
  | zero => rw [sq_0]; exact Nat.one_pos
  | succ L =>
    cases hu : uni d (2 ^ (L + 1)) x y
    · rw [sq_f hu, List.length_cons]; omega
    · rw [sq_t hu]; exact Nat.one_pos
def mlen : Nat → Nat
  | 0 => 1
  | L + 1 => 1 + 4 * mlen L
theorem mlen_pos : ∀ L, 1 ≤ mlen L
  | 0 => Nat.le_refl 1
  | L + 1 => by show 1 ≤ 1 + 4 * mlen L; omega
theorem sq_len (d : Nat → Nat → Bool) : ∀ L x y, (sq d L x y).length ≤ mlen L
  | 0, x, y => by rw [sq_0]; exact Nat.le_refl 1
  | L + 1, x, y => by
    have h1 := sq_len d L x y
    have h2 := sq_len d L (x + 2 ^ L) y
    have h3 := sq_len d L x (y + 2 ^ L)
    have h4 := sq_len d L (x + 2 ^ L) (y + 2 ^ L)
    have hp := mlen_pos L
    show _ ≤ 1 + 4 * mlen L
    cases hu : uni d (2 ^ (L + 1)) x y
    · rw [sq_f hu]
      simp only [List.length_cons, List.length_append]
      omega
    · rw [sq_t hu]
      show 1 ≤ _
      omega
theorem sq_341 (d : Nat → Nat → Bool) (x y : Nat) : (sq d 4 x y).length ≤ 341 := sq_len d 4 x y
/-- the deepest mixed square, by its level from the whole -/
def dp2 (d : Nat → Nat → Bool) (L x y : Nat) : Nat := if dpt d L x y = 0 then 0 else 4 - L + dpt d L x y
theorem dp2_c (d : Nat → Nat → Bool) (L x y : Nat) : (dp2 d L x y = 0 ∧ dpt d L x y = 0) ∨ (dp2 d L x y = 4 - L + dpt d L x y ∧ 0 < dpt d L x y) := by
  unfold dp2
  by_cases h : dpt d L x y = 0
  · rw [if_pos h]; exact Or.inl ⟨rfl, h⟩
  · rw [if_neg h]; exact Or.inr ⟨rfl, by omega⟩
theorem dp2_f {d : Nat → Nat → Bool} {L x y : Nat} (hL : L + 1 ≤ 4) (h : uni d (2 ^ (L + 1)) x y = false) : dp2 d (L + 1) x y = max (4 - L) (max (max (dp2 d L x y) (dp2 d L (x + 2 ^ L) y)) (max (dp2 d L x (y + 2 ^ L)) (dp2 d L (x + 2 ^ L) (y + 2 ^ L)))) := by
  have h0 := dp2_c d (L + 1) x y
  have h1 := dp2_c d L x y
  have h2 := dp2_c d L (x + 2 ^ L) y
  have h3 := dp2_c d L x (y + 2 ^ L)
  have h4 := dp2_c d L (x + 2 ^ L) (y + 2 ^ L)
  rw [dpt_f h] at h0
  omega
theorem dp2_le {d : Nat → Nat → Bool} {L x y : Nat} (hL : L ≤ 4) : dp2 d L x y ≤ 4 := by
  have h1 := dp2_c d L x y
  have h2 := dpt_le d L x y
  omega
theorem dp2_4 (d : Nat → Nat → Bool) (x y : Nat) : dp2 d 4 x y = dpt d 4 x y := by
  have h1 := dp2_c d 4 x y
  omega
theorem dp2_u {d : Nat → Nat → Bool} {L x y : Nat} (h : uni d (2 ^ L) x y = true) : dp2 d L x y = 0 := by
  unfold dp2
  rw [(sq_any h).2]; rfl
theorem jmax_n {a b : Nat} (ha : a < 2147483648) (hb : b < 2147483648) : jmax (nI a) (nI b) = nI (max a b) := by
  unfold jmax
  rcases Nat.lt_or_ge a b with h | h
  · rw [if_pos (nI_lt h hb), show max a b = b by omega]
  · rw [if_neg (nI_nlt h ha), show max a b = a by omega]
theorem s_add {lst : IA} {T D v : Nat} (hT : T < 341) (hv : v < 3) {Q : IA → Int32 → Int32 → Prop} (hQ : Q (upd lst T (nI v)) (nI (T + 1)) (nI (D + ctl 1 [v]))) : wp_Si_addSign lst (nI T) (nI D) (nI v) Q := by
  unfold wp_Si_addSign
  rw [e_w341, brA (vp_in_nI hT (by omega))]
  dsimp only [jn]
  rw [br1, clN (by omega)]
  refine ⟨vp_in_nI hT (by omega), fun f1 e1 t1 et1 => ?_⟩
  rw [nI_1] at et1
  subst e1; subst et1
  unfold wj_Si_addSign_33
  refine ⟨fun q dv edv => ?_, fun q => ?_⟩
  · have h : v = 1 := (nI_eq (a := v) (b := 1) (by omega) (by omega)).mp q
    subst h
    rw [nI_1] at edv
    rw [edv]
    exact hQ
  · have h : ctl 1 [v] = 0 := by
      show (if v = 1 then 1 else 0) + 0 = 0
      rw [if_neg (fun w => q (by rw [w]; rfl))]
    rw [h, Nat.add_zero] at hQ
    exact hQ
theorem tl_step {f lst : IA} {T D M X a4 lv : Int32} {x y h n : Nat} {Q : IA → Int32 → Int32 → Int32 → Int32 → Prop} {REC : IA → IA → Int32 → Int32 → Int32 → Int32 → Int32 → Int32 → Int32 → Int32 → (IA → Int32 → Int32 → Int32 → Int32 → Prop) → Prop} (i X' Y' : Nat) (hi : i < 4) (eX : X' = x + i % 2 * h) (eY : Y' = y + i / 2 * h) (el : a4 + 1 = lv)
    (hR : REC f lst T D M X (nI X') (nI Y') (nI h) lv (fun a b c d e => wl_Si_tellSquare_61 f (nI x) (nI y) a4 Q REC (nI h) n (nI (i + 1)) a b c d e)) : wl_Si_tellSquare_61 f (nI x) (nI y) a4 Q REC (nI h) (n + 1) (nI i) lst T D M X := by
  rw [wl_Si_tellSquare_61]
  refine ⟨fun q => absurd q (nI_ge (b := 4) hi (by omega)), fun _ => ?_⟩
  have e1 : nI x + jrem (nI i) 2 * nI h = nI X' := by
    rw [show jrem (nI i) 2 = nI (i % 2) from pk_rem (a := i) (d := 2) (by omega) (by omega) (by omega), pk_mul, nI_add, eX]
  have e2 : nI y + nI i / 2 * nI h = nI Y' := by
    rw [show nI i / 2 = nI (i / 2) from pk_div (a := i) (d := 2) (by omega) (by omega) (by omega), pk_mul, nI_add, eY]
  rw [e1, e2, el, nI_1]
  exact hR
theorem p2_lt {L : Nat} (h : L ≤ 4) : 2 ^ L ≤ 16 := by
  have := Nat.pow_le_pow_right (n := 2) (by omega) h
  omega
theorem p2_pos (L : Nat) : 0 < 2 ^ L := Nat.pow_pos (by omega)
theorem s_tell (f : IA) : ∀ L, L ≤ 4 → ∀ (x y : Nat) (lst : IA) (T D M X : Nat) (lv : Int32) (Q : IA → Int32 → Int32 → Int32 → Int32 → Prop), x + 2 ^ L ≤ 16 → y + 2 ^ L ≤ 16 → T + (sq (dk f) L x y).length ≤ 341 → X < 1000 → lv = nI (5 - L) →
    (∀ (lst' : IA) (T' D' M' X' : Nat), tells (sq (dk f) L x y) T lst lst' → T' = T + (sq (dk f) L x y).length → D' = D + ctl 1 (sq (dk f) L x y) → M' = M + ctl 2 (sq (dk f) L x y) → X' = max X (dp2 (dk f) L x y) → Q lst' (nI T') (nI D') (nI M') (nI X')) →
    wp_Si_tellSquare (L + 1) f lst (nI T) (nI D) (nI M) (nI X) (nI x) (nI y) (nI (2 ^ L)) lv Q := by
  have leaf : ∀ (L : Nat), L ≤ 4 → ∀ (x y : Nat) (lst : IA) (T D M X : Nat) (lv : Int32) (Q : IA → Int32 → Int32 → Int32 → Int32 → Prop), x + 2 ^ L ≤ 16 → y + 2 ^ L ≤ 16 → T + (sq (dk f) L x y).length ≤ 341 →
      (∀ (lst' : IA) (T' D' M' X' : Nat), tells (sq (dk f) L x y) T lst lst' → T' = T + (sq (dk f) L x y).length → D' = D + ctl 1 (sq (dk f) L x y) → M' = M + ctl 2 (sq (dk f) L x y) → X' = max X (dp2 (dk f) L x y) → Q lst' (nI T') (nI D') (nI M') (nI X')) →
      uni (dk f) (2 ^ L) x y = true → wp_Si_tellSquare (L + 1) f lst (nI T) (nI D) (nI M) (nI X) (nI x) (nI y) (nI (2 ^ L)) lv Q := by
    intro L hL x y lst T D M X lv Q hx hy hT hQ hu
    show wb_Si_tellSquare (wp_Si_tellSquare L) f lst (nI T) (nI D) (nI M) (nI X) (nI x) (nI y) (nI (2 ^ L)) lv Q
    unfold wb_Si_tellSquare
    have hp := sq_pos (dk f) L x y
    refine s_sign (p2_pos L) hx hy (s_add (by omega) (sgn_lt _ _ _ _) ?_)
    rw [(sq_any hu).1, dp2_u hu] at hQ
    have h2 : ¬ nI (sgn (dk f) (2 ^ L) x y) = 2 := fun w => by
      have := sgn_2.mp w
      rw [hu] at this
      exact absurd this (by decide)
    refine ⟨fun w => absurd w h2, fun _ => ?_⟩
    rw [sgn_t hu]
    refine hQ _ _ _ _ _ (tells_one _ T lst) rfl rfl ?_ (by omega)
    show M = M + ((if (if dk f x y = true then 1 else 0) = 2 then 1 else 0) + 0)
    rw [if_neg (by cases dk f x y <;> decide)]
    rfl
  intro L
  induction L with
  | zero =>
    intro hL x y lst T D M X lv Q hx hy hT hX hl hQ
    exact leaf 0 hL x y lst T D M X lv Q hx hy hT hQ (uni_1 _ _ _)
  | succ L ih =>
    intro hL x y lst T D M X lv Q hx hy hT hX hl hQ
    cases hu : uni (dk f) (2 ^ (L + 1)) x y
    · show wb_Si_tellSquare (wp_Si_tellSquare (L + 1)) f lst (nI T) (nI D) (nI M) (nI X) (nI x) (nI y) (nI (2 ^ (L + 1))) lv Q
      unfold wb_Si_tellSquare
      have hp := sq_pos (dk f) (L + 1) x y
      have h2p : 2 ^ (L + 1) = 2 ^ L + 2 ^ L := by rw [Nat.pow_succ]; omega
      have hpp := p2_pos L
      refine s_sign (p2_pos _) hx hy (s_add (by omega) (sgn_lt _ _ _ _) ?_)
      rw [sq_f hu] at hQ hT
      rw [sgn_f hu]
      simp only [List.length_cons, List.length_append] at hT
      refine ⟨fun _ => ⟨fun _ vm evm vd evd x6 e6 => ?_, fun w => absurd (nI_lt (a := 1) (b := 2 ^ (L + 1)) (by omega) (by omega)) w⟩, fun w => absurd rfl w⟩
      rw [nI_1] at evm
      rw [hl, jmax_n (by omega) (by omega)] at evd
      have e6' : x6 = nI (2 ^ L) := by
        rw [e6, show nI (2 ^ (L + 1)) / 2 = nI (2 ^ (L + 1) / 2) from pk_div (a := 2 ^ (L + 1)) (d := 2) (by omega) (by omega) (by omega), show 2 ^ (L + 1) / 2 = 2 ^ L by omega]
      clear e6
      subst evm; subst evd; subst e6'
      have b1 := @dp2_le (dk f) L x y (by omega)
      have b2 := @dp2_le (dk f) L (x + 2 ^ L) y (by omega)
      have b3 := @dp2_le (dk f) L x (y + 2 ^ L) (by omega)
      have b4 := @dp2_le (dk f) L (x + 2 ^ L) (y + 2 ^ L) (by omega)
      have el : lv + 1 = nI (5 - L) := by rw [hl, nI_1, show 5 - (L + 1) + 1 = 5 - L by omega]
      refine ⟨4 + 1, tl_step 0 x y (by omega) (by simp) (by simp) el ?_⟩
      refine ih (by omega) x y _ _ _ _ _ _ _ (by omega) (by omega) (by omega) (by omega) rfl (fun l1 T1 D1 M1 X1 t1 q1 q2 q3 q4 => ?_)
      refine tl_step 1 (x + 2 ^ L) y (by omega) (by simp) (by simp) el ?_
      refine ih (by omega) (x + 2 ^ L) y _ _ _ _ _ _ _ (by omega) (by omega) (by omega) (by omega) rfl (fun l2 T2 D2 M2 X2 t2 q5 q6 q7 q8 => ?_)
      refine tl_step 2 x (y + 2 ^ L) (by omega) (by simp) (by simp) el ?_
      refine ih (by omega) x (y + 2 ^ L) _ _ _ _ _ _ _ (by omega) (by omega) (by omega) (by omega) rfl (fun l3 T3 D3 M3 X3 t3 q9 q10 q11 q12 => ?_)
      refine tl_step 3 (x + 2 ^ L) (y + 2 ^ L) (by omega) (by simp) (by simp) el ?_
      refine ih (by omega) (x + 2 ^ L) (y + 2 ^ L) _ _ _ _ _ _ _ (by omega) (by omega) (by omega) (by omega) rfl (fun l4 T4 D4 M4 X4 t4 q13 q14 q15 q16 => ?_)
      show wl_Si_tellSquare_61 f (nI x) (nI y) lv Q (wp_Si_tellSquare (L + 1)) (nI (2 ^ L)) (0 + 1) (nI 4) l4 (nI T4) (nI D4) (nI M4) (nI X4)
      rw [wl_Si_tellSquare_61]
      have z1 : ctl 1 [2] = 0 := rfl
      refine ⟨fun _ => hQ l4 T4 D4 M4 X4 ?_ ?_ ?_ ?_ ?_, fun w => absurd (by decide) w⟩
      · subst q5; subst q9; subst q1
        exact tells_app (l1 := [2]) (tells_one 2 T lst) (tells_app t1 (tells_app t2 (tells_app t3 t4)))
      · simp only [List.length_cons, List.length_append]
        omega
      · show D4 = D + ((if (2 : Nat) = 1 then 1 else 0) + ctl 1 _)
        rw [if_neg (by decide), ctl_app, ctl_app, ctl_app]
        omega
      · show M4 = M + ((if (2 : Nat) = 2 then 1 else 0) + ctl 2 _)
        rw [if_pos rfl, ctl_app, ctl_app, ctl_app]
        omega
      · rw [dp2_f hL hu]
        omega
    · exact leaf (L + 1) hL x y lst T D M X lv Q hx hy hT hQ hu
theorem s_same {f g : IA} {Q : Int32 → Prop} (h1 : (∀ y, y < 16 → f y = g y) → Q 1) (h0 : (∃ y, y < 16 ∧ f y ≠ g y) → Q 0) : wp_Gr_sameAs f g Q := by
  unfold wp_Gr_sameAs
  refine lp (fun n i (_ : Unit) => wl_Gr_sameAs_2 f g Q n (nI i)) (fun i _ => ∀ y, y < i → f y = g y) 16 () (fun y hy => by omega) (fun n _ h => ?_) (fun n i _ hi h ih => ?_)
  · rw [wl_Gr_sameAs_2]
    exact ⟨fun _ => h1 h, fun q => absurd le16 q⟩
  · rw [wl_Gr_sameAs_2]
    refine ⟨fun q => absurd q (ge16 hi), fun _ => ⟨in16 hi, in16 hi, ?_⟩⟩
    rw [clN (by omega), nI_1]
    refine ⟨fun q => ih () (fun y hy => ?_), fun q => h0 ⟨i, hi, q⟩⟩
    by_cases w : y = i
    · subst w; exact q
    · exact h y (by omega)
theorem s_siLook {sS sL o : IA} {sT sD sM sX : Int32} (hS : SignsOK sS sL sT sD sM sX) (ho : g16 o) {Q : IA → IA → Int32 → Int32 → Int32 → Int32 → Prop} (hQ : ∀ S L T D M X, SignsOK S L T D M X → dk S = dk o → Q S L T D M X) : wp_Si_look sS sL sT sD sM sX o Q := by
  unfold wp_Si_look
  refine s_same (fun h => ?_) (fun _ => ?_)
  · rw [br1]
    exact hQ _ _ _ _ _ _ hS (dk_eq h)
  · rw [br0]
    refine s_take (fun f' hf' => ?_)
    have hg : g16 f' := fun y hy => by rw [hf' y hy]; exact ho y hy
    refine s_tell f' 4 (by omega) 0 0 sL 0 0 0 0 1 _ (by decide) (by decide) (by have := sq_341 (dk f') 0 0; omega) (by omega) rfl (fun l' T' D' M' X' t q1 q2 q3 q4 => ?_)
    refine hQ _ _ _ _ _ _ ⟨hg, ?_, ?_, ?_, ?_, ?_⟩ (dk_eq hf')
    · rw [q1, Nat.zero_add]
    · intro i hi
      have := t.2 i hi
      rw [Nat.zero_add] at this
      exact this
    · rw [q2, Nat.zero_add, ctl_eq]
    · rw [q3, Nat.zero_add, ctl_eq]
    · rw [q4, dp2_4, show max 0 (dpt (dk f') 4 0 0) = dpt (dk f') 4 0 0 by omega]
/-! the reference's row of squares that wait -/
def stk (wX wY wS : IA) : Nat → List (Nat × Nat × Nat) → Prop
  | w, [] => w = 0
  | w, q :: r => ∃ v, w = v + 1 ∧ v + 1 + 3 * q.1 ≤ 13 ∧ q.2.1 + 2 ^ q.1 ≤ 16 ∧ q.2.2 + 2 ^ q.1 ≤ 16 ∧ wX v = nI q.2.1 ∧ wY v = nI q.2.2 ∧ wS v = nI (2 ^ q.1) ∧ stk wX wY wS v r
theorem stk_upd {wX wY wS wX' wY' wS' : IA} : ∀ (st : List (Nat × Nat × Nat)) (w : Nat), stk wX wY wS w st → (∀ j, j < w → wX' j = wX j ∧ wY' j = wY j ∧ wS' j = wS j) → stk wX' wY' wS' w st
  | [], _, h, _ => h
  | q :: r, w, h, e => by
    obtain ⟨v, h1, h2, h3, h4, h5, h6, h7, h8⟩ := h
    obtain ⟨e1, e2, e3⟩ := e v (by omega)
    exact ⟨v, h1, h2, h3, h4, by rw [e1, h5], by rw [e2, h6], by rw [e3, h7], stk_upd r v h8 (fun j hj => e j (by omega))⟩
def pushed (wX wY wS wX' wY' wS' : IA) (w x y h : Nat) : Prop := (∀ j, j < w → wX' j = wX j ∧ wY' j = wY j ∧ wS' j = wS j) ∧
  (wX' w = nI (x + h) ∧ wY' w = nI (y + h) ∧ wS' w = nI h) ∧ (wX' (w + 1) = nI x ∧ wY' (w + 1) = nI (y + h) ∧ wS' (w + 1) = nI h) ∧
  (wX' (w + 2) = nI (x + h) ∧ wY' (w + 2) = nI y ∧ wS' (w + 2) = nI h) ∧ (wX' (w + 3) = nI x ∧ wY' (w + 3) = nI y ∧ wS' (w + 3) = nI h)
theorem stk_push {wX wY wS wX' wY' wS' : IA} {w L x y : Nat} {r : List (Nat × Nat × Nat)} (hr : stk wX wY wS w r) (hb : w + 1 + 3 * (L + 1) ≤ 13) (hx : x + 2 ^ (L + 1) ≤ 16) (hy : y + 2 ^ (L + 1) ≤ 16) (hp : pushed wX wY wS wX' wY' wS' w x y (2 ^ L)) :
    stk wX' wY' wS' (w + 4) ((L, x, y) :: (L, x + 2 ^ L, y) :: (L, x, y + 2 ^ L) :: (L, x + 2 ^ L, y + 2 ^ L) :: r) := by
  obtain ⟨p0, ⟨a1, a2, a3⟩, ⟨b1, b2, b3⟩, ⟨c1, c2, c3⟩, ⟨d1, d2, d3⟩⟩ := hp
  have hpp := p2_pos L
  have h2p : 2 ^ (L + 1) = 2 ^ L + 2 ^ L := by rw [Nat.pow_succ]; omega
  exact ⟨w + 3, rfl, by show w + 3 + 1 + 3 * L ≤ 13; omega, by show x + 2 ^ L ≤ 16; omega, by show y + 2 ^ L ≤ 16; omega, d1, d2, d3,
    w + 2, rfl, by show w + 2 + 1 + 3 * L ≤ 13; omega, by show x + 2 ^ L + 2 ^ L ≤ 16; omega, by show y + 2 ^ L ≤ 16; omega, c1, c2, c3,
    w + 1, rfl, by show w + 1 + 1 + 3 * L ≤ 13; omega, by show x + 2 ^ L ≤ 16; omega, by show y + 2 ^ L + 2 ^ L ≤ 16; omega, b1, b2, b3,
    w, rfl, by show w + 1 + 3 * L ≤ 13; omega, by show x + 2 ^ L + 2 ^ L ≤ 16; omega, by show y + 2 ^ L + 2 ^ L ≤ 16; omega, a1, a2, a3, stk_upd r w hr p0⟩
theorem t_later {wX wY wS : IA} {w : Nat} {a b c : Int32} (hw : w < 16) {Q : IA → IA → IA → Int32 → Prop} (hQ : Q (upd wX w a) (upd wY w b) (upd wS w c) (nI (w + 1))) : wp_Md_later wX wY wS (nI w) a b c Q := by
  unfold wp_Md_later
  rw [clN (by omega), nI_1]
  refine ⟨vp_in_nI hw (by omega), fun f1 e1 => ⟨vp_in_nI hw (by omega), fun f2 e2 => ⟨vp_in_nI hw (by omega), fun f3 e3 v ev => ?_⟩⟩⟩
  subst e1; subst e2; subst e3; subst ev
  exact hQ
theorem t_quarters {wX wY wS : IA} {w x y L : Nat} (hL : L + 1 ≤ 4) (hw : w + 4 ≤ 16) {Q : IA → IA → IA → Int32 → Prop} (hQ : ∀ wX' wY' wS', pushed wX wY wS wX' wY' wS' w x y (2 ^ L) → Q wX' wY' wS' (nI (w + 4))) : wp_Md_quarters wX wY wS (nI w) (nI x) (nI y) (nI (2 ^ (L + 1))) Q := by
  unfold wp_Md_quarters
  intro h eh
  have hp2 := p2_lt hL
  have h2p : 2 ^ (L + 1) = 2 ^ L + 2 ^ L := by rw [Nat.pow_succ]; omega
  have eh' : h = nI (2 ^ L) := by
    rw [eh, show nI (2 ^ (L + 1)) / 2 = nI (2 ^ (L + 1) / 2) from pk_div (a := 2 ^ (L + 1)) (d := 2) (by omega) (by omega) (by omega), show 2 ^ (L + 1) / 2 = 2 ^ L by omega]
  clear eh
  subst eh'
  rw [nI_add, nI_add]
  refine t_later (by omega) (t_later (by omega) (t_later (by omega) (t_later (by omega) ?_)))
  refine hQ _ _ _ ⟨fun j hj => ?_, ?_, ?_, ?_, ?_⟩
  · refine ⟨?_, ?_, ?_⟩ <;> rw [pk_un (by omega), pk_un (by omega), pk_un (by omega), pk_un (by omega)]
  · refine ⟨?_, ?_, ?_⟩ <;> rw [pk_un (by omega), pk_un (by omega), pk_un (by omega), pk_us]
  · refine ⟨?_, ?_, ?_⟩ <;> rw [pk_un (by omega), pk_un (by omega), pk_us]
  · refine ⟨?_, ?_, ?_⟩ <;> rw [pk_un (by omega), pk_us]
  · refine ⟨?_, ?_, ?_⟩ <;> rw [pk_us]
def outs (d : Nat → Nat → Bool) : List (Nat × Nat × Nat) → List Nat
  | [] => []
  | q :: r => sq d q.1 q.2.1 q.2.2 ++ outs d r
def dmx (d : Nat → Nat → Bool) : List (Nat × Nat × Nat) → Nat
  | [] => 0
  | q :: r => max (dp2 d q.1 q.2.1 q.2.2) (dmx d r)
theorem cl0 : (0 : Int32).toNatClampNeg = 0 := rfl
theorem cl1 : (1 : Int32).toNatClampNeg = 1 := rfl
theorem cl2 : (2 : Int32).toNatClampNeg = 2 := rfl
theorem cl3 : (3 : Int32).toNatClampNeg = 3 := rfl
theorem v04 : vp_in 0 4 := vp_in_nI (n := 0) (by omega) (by omega)
theorem v14 : vp_in 1 4 := vp_in_nI (n := 1) (by omega) (by omega)
theorem v24 : vp_in 2 4 := vp_in_nI (n := 2) (by omega) (by omega)
theorem v34 : vp_in 3 4 := vp_in_nI (n := 3) (by omega) (by omega)
theorem sh_t1 {wX wY wS sg m1 : IA} {Kh : Int32 → IA → IA → IA → Int32 → IA → Int32 → IA → Prop} {wt X Y S sn t3 : Int32} (h : ∀ mn' : IA, mn' 0 = m1 0 → mn' 1 = m1 1 + t3 → mn' 2 = m1 2 → mn' 3 = m1 3 → Kh X wX wY wS wt sg sn mn') : wj_Md_shows_173 wX wY wS Kh wt X Y S 1 sg sn m1 t3 := by
  unfold wj_Md_shows_173
  rw [cl1]
  refine ⟨v14, fun m2 em2 => ⟨v24, ?_⟩⟩
  dsimp only [jn]
  rw [br1]
  unfold wj_Md_shows_192
  rw [cl2]
  refine ⟨v24, fun m3 em3 => ?_⟩
  dsimp only [jn]
  rw [br1, cl3]
  refine ⟨v34, ?_⟩
  unfold wj_Md_shows_227
  rw [cl3]
  refine ⟨v34, fun m4 em4 => ?_⟩
  dsimp only [jn]
  rw [br1]
  unfold wj_Md_shows_241
  subst em4; subst em3; subst em2
  refine h _ ?_ ?_ ?_ ?_
  · rw [pk_un (by decide), pk_un (by decide), pk_un (by decide)]
  · rw [pk_un (by decide), pk_un (by decide), pk_us]
  · rw [pk_un (by decide), pk_us, pk_un (by decide), Int32.add_zero]
  · rw [pk_us, pk_un (by decide), pk_un (by decide)]
theorem t_deep {L : Nat} (hL : L + 1 ≤ 4) {Q : Int32 → Prop} (hQ : Q (nI (4 - L))) : wp_Md_deepOf (nI (2 ^ (L + 1))) Q := by
  unfold wp_Md_deepOf
  have h : L = 0 ∨ L = 1 ∨ L = 2 ∨ L = 3 := by omega
  rcases h with h | h | h | h
  · subst h
    exact ⟨fun w => absurd w (by decide), fun _ => ⟨fun w => absurd w (by decide), fun _ => ⟨fun w => absurd w (by decide), fun _ => hQ⟩⟩⟩
  · subst h
    exact ⟨fun w => absurd w (by decide), fun _ => ⟨fun w => absurd w (by decide), fun _ => ⟨fun _ => hQ, fun w => absurd (by decide) w⟩⟩⟩
  · subst h
    exact ⟨fun w => absurd w (by decide), fun _ => ⟨fun _ => hQ, fun w => absurd (by decide) w⟩⟩
  · subst h
    exact ⟨fun _ => hQ, fun w => absurd (by decide) w⟩
theorem t_greater {a b : Nat} (ha : a < 2147483648) (hb : b < 2147483648) {Q : Int32 → Prop} (hQ : Q (nI (max a b))) : wp_Md_greater (nI a) (nI b) Q := by
  unfold wp_Md_greater
  refine ⟨fun h => ?_, fun h => ?_⟩
  · have := (nI_leI ha hb).mp h
    rw [show max a b = b by omega] at hQ
    exact hQ
  · have : ¬ a ≤ b := fun w => h ((nI_leI ha hb).mpr w)
    rw [show max a b = a by omega] at hQ
    exact hQ
theorem t_lesser {a b : Nat} (ha : a < 2147483648) (hb : b < 2147483648) {Q : Int32 → Prop} (hQ : Q (nI (min a b))) : wp_Md_lesser (nI a) (nI b) Q := by
  unfold wp_Md_lesser
  refine ⟨fun h => ?_, fun h => ?_⟩
  · have := (nI_leI hb ha).mp h
    rw [show min a b = b by omega] at hQ
    exact hQ
  · have : ¬ b ≤ a := fun w => h ((nI_leI hb ha).mpr w)
    rw [show min a b = a by omega] at hQ
    exact hQ
theorem sh_t0 {wX wY wS sg m1 : IA} {Kh : Int32 → IA → IA → IA → Int32 → IA → Int32 → IA → Prop} {sn : Int32} {w x y L e : Nat} (hL : L + 1 ≤ 4) (hw : w + 4 ≤ 16) (he : e < 1000) (h3 : m1 3 = nI e) (h : ∀ mn' wX' wY' wS' : IA, mn' 0 = m1 0 → mn' 1 = m1 1 → mn' 2 = m1 2 + 1 → mn' 3 = nI (max (4 - L) e) → pushed wX wY wS wX' wY' wS' w x y (2 ^ L) → Kh (nI x) wX' wY' wS' (nI (w + 4)) sg sn mn') : wj_Md_shows_173 wX wY wS Kh (nI w) (nI x) (nI y) (nI (2 ^ (L + 1))) 0 sg sn m1 0 := by
  unfold wj_Md_shows_173
  rw [cl1]
  refine ⟨v14, fun m2 em2 => ⟨v24, ?_⟩⟩
  dsimp only [jn]
  rw [br0]
  unfold wj_Md_shows_192
  rw [cl2]
  refine ⟨v24, fun m3 em3 => ?_⟩
  dsimp only [jn]
  rw [br0, cl3]
  refine t_deep hL ⟨v34, ?_⟩
  have e3 : m3 3 = nI e := by
    rw [em3, pk_un (by decide), em2, pk_un (by decide), h3]
  rw [e3]
  refine t_greater (by omega) (by omega) ?_
  unfold wj_Md_shows_227
  rw [cl3]
  refine ⟨v34, fun m4 em4 => ?_⟩
  dsimp only [jn]
  rw [br0]
  refine t_quarters hL hw (fun wX' wY' wS' hp => ?_)
  unfold wj_Md_shows_241
  subst em4; subst em3; subst em2
  refine h _ wX' wY' wS' ?_ ?_ ?_ ?_ hp
  · rw [pk_un (by decide), pk_un (by decide), pk_un (by decide)]
  · rw [pk_un (by decide), pk_un (by decide), pk_us, Int32.add_zero]
  · rw [pk_un (by decide), pk_us, pk_un (by decide)]
  · rw [pk_us]
theorem t_shL {rows : IA} {m : Nat} (hm : m < 4) {Q : IA → IA → IA → Int32 → IA → Int32 → IA → Prop} : ∀ (N : Nat) (st : List (Nat × Nat × Nat)) (w T a b c e : Nat) (x2 : Int32) (wX wY wS sg mn : IA), stk wX wY wS w st → (outs (dk (mg rows m)) st).length ≤ N → T + (outs (dk (mg rows m)) st).length ≤ 341 → mn 0 = nI a → mn 1 = nI b → mn 2 = nI c → mn 3 = nI e → e < 1000 →
    (∀ (wX' wY' wS' : IA) (ww : Int32) (sg' mn' : IA) (T' a' b' c' e' : Nat), tells (outs (dk (mg rows m)) st) T sg sg' → T' = T + (outs (dk (mg rows m)) st).length → mn' 0 = nI a' → mn' 1 = nI b' → mn' 2 = nI c' → mn' 3 = nI e' → a' + ctl 2 (outs (dk (mg rows m)) st) = a + (outs (dk (mg rows m)) st).length → b' = b + ctl 1 (outs (dk (mg rows m)) st) → c' = c + ctl 2 (outs (dk (mg rows m)) st) → e' = max e (dmx (dk (mg rows m)) st) → Q wX' wY' wS' ww sg' (nI T') mn') →
    wl_Md_shows_38 rows (nI m) Q (N + 1) x2 wX wY wS (nI w) sg (nI T) mn := by
  intro N
  induction N with
  | zero =>
    intro st w T a b c e x2 wX wY wS sg mn hst hN hT h0 h1 h2 h3 he hQ
    cases st with
    | nil =>
      have hw : w = 0 := hst
      subst hw
      rw [wl_Md_shows_38]
      exact ⟨fun _ => hQ _ _ _ _ _ _ T a b c e (tells_nil T sg) rfl h0 h1 h2 h3 rfl rfl rfl (by show e = max e 0; omega), fun q => absurd (by decide) q⟩
    | cons q r =>
      have hp := sq_pos (dk (mg rows m)) q.1 q.2.1 q.2.2
      have : (sq (dk (mg rows m)) q.1 q.2.1 q.2.2 ++ outs (dk (mg rows m)) r).length ≤ 0 := hN
      rw [List.length_append] at this
      omega
  | succ N ih =>
    intro st w T a b c e x2 wX wY wS sg mn hst hN hT h0 h1 h2 h3 he hQ
    cases st with
    | nil =>
      have hw : w = 0 := hst
      subst hw
      rw [wl_Md_shows_38]
      exact ⟨fun _ => hQ _ _ _ _ _ _ T a b c e (tells_nil T sg) rfl h0 h1 h2 h3 rfl rfl rfl (by show e = max e 0; omega), fun q => absurd (by decide) q⟩
    | cons q r =>
      obtain ⟨L, x, y⟩ := q
      obtain ⟨v, hv, hb, hx, hy, e1, e2, e3, hr⟩ := hst
      simp only at hb hx hy e1 e2 e3
      subst hv
      have eo : outs (dk (mg rows m)) ((L, x, y) :: r) = sq (dk (mg rows m)) L x y ++ outs (dk (mg rows m)) r := rfl
      have ed : dmx (dk (mg rows m)) ((L, x, y) :: r) = max (dp2 (dk (mg rows m)) L x y) (dmx (dk (mg rows m)) r) := rfl
      rw [eo] at hN hT hQ
      rw [ed] at hQ
      have hp := sq_pos (dk (mg rows m)) L x y
      have hpp := p2_pos L
      rw [wl_Md_shows_38]
      refine ⟨fun q => absurd q (nI_nle (by omega) (by omega)), fun _ vv evv => ?_⟩
      rw [nI_pred] at evv
      subst evv
      rw [clN (by omega), e1, e2, e3]
      refine ⟨vp_in_nI (by omega) (by omega), fun xx exx => ⟨vp_in_nI (by omega) (by omega), fun yy eyy => ⟨vp_in_nI (by omega) (by omega), fun sz esz => ?_⟩⟩⟩
      subst exx; subst eyy; subst esz
      refine t_isBlock hm hpp hx hy ?_
      cases hu : uni (dk (mg rows m)) (2 ^ L) x y
      · rw [if_neg (by decide)]
        cases L with
        | zero =>
          have := uni_1 (dk (mg rows m)) x y
          rw [show (2 : Nat) ^ 0 = 1 from rfl] at hu
          rw [hu] at this
          exact absurd this (by decide)
        | succ L =>
          rw [sq_f hu] at hN hT hQ
          rw [dp2_f (by omega) hu] at hQ
          simp only [List.length_cons, List.length_append] at hN hT
          dsimp only [jn]
          rw [br0]
          unfold wj_Md_shows_113
          rw [clN (by omega), nI_1]
          refine ⟨vp_in_nI (by omega) (by omega), fun sg' esg sn esn => ⟨v04, ?_⟩⟩
          dsimp only [jn]
          rw [br0]
          unfold wj_Md_shows_153
          rw [cl0]
          refine ⟨v04, fun m1 em1 => ⟨v14, ?_⟩⟩
          dsimp only [jn]
          rw [brB (show ¬ (2 : Int32) = 1 by decide)]
          have f0 : m1 0 = nI a := by rw [em1, pk_us, h0, Int32.add_zero]
          have f1 : m1 1 = nI b := by rw [em1, pk_un (by decide), h1]
          have f2 : m1 2 = nI c := by rw [em1, pk_un (by decide), h2]
          have f3 : m1 3 = nI e := by rw [em1, pk_un (by decide), h3]
          subst esn
          refine sh_t0 (by omega) (by omega) he f3 (fun mn' wX' wY' wS' g0 g1 g2 g3 hpu => ?_)
          refine ih _ (v + 4) (T + 1) a b (c + 1) (max (4 - L) e) _ wX' wY' wS' sg' mn' (stk_push hr hb hx hy hpu) ?_ ?_ (by rw [g0, f0]) (by rw [g1, f1]) (by rw [g2, f2, nI_1]) g3 (by omega) (fun aX aY aS ww sg2 mn2 T2 a2 b2 c2 e2' t w1 w2 w3 w4 w5 w6 w7 w8 w9 => ?_)
          · show (sq _ L x y ++ (sq _ L (x + 2 ^ L) y ++ (sq _ L x (y + 2 ^ L) ++ (sq _ L (x + 2 ^ L) (y + 2 ^ L) ++ outs _ r)))).length ≤ N
            simp only [List.length_append]
            omega
          · show T + 1 + (sq _ L x y ++ (sq _ L (x + 2 ^ L) y ++ (sq _ L x (y + 2 ^ L) ++ (sq _ L (x + 2 ^ L) (y + 2 ^ L) ++ outs _ r)))).length ≤ 341
            simp only [List.length_append]
            omega
          · have eo2 : outs (dk (mg rows m)) ((L, x, y) :: (L, x + 2 ^ L, y) :: (L, x, y + 2 ^ L) :: (L, x + 2 ^ L, y + 2 ^ L) :: r) = sq (dk (mg rows m)) L x y ++ (sq (dk (mg rows m)) L (x + 2 ^ L) y ++ (sq (dk (mg rows m)) L x (y + 2 ^ L) ++ (sq (dk (mg rows m)) L (x + 2 ^ L) (y + 2 ^ L) ++ outs (dk (mg rows m)) r))) := rfl
            have ed2 : dmx (dk (mg rows m)) ((L, x, y) :: (L, x + 2 ^ L, y) :: (L, x, y + 2 ^ L) :: (L, x + 2 ^ L, y + 2 ^ L) :: r) = max (dp2 (dk (mg rows m)) L x y) (max (dp2 (dk (mg rows m)) L (x + 2 ^ L) y) (max (dp2 (dk (mg rows m)) L x (y + 2 ^ L)) (max (dp2 (dk (mg rows m)) L (x + 2 ^ L) (y + 2 ^ L)) (dmx (dk (mg rows m)) r)))) := rfl
            rw [eo2] at t w1 w6 w7 w8
            rw [ed2] at w9
            have el : (2 :: (sq (dk (mg rows m)) L x y ++ (sq (dk (mg rows m)) L (x + 2 ^ L) y ++ (sq (dk (mg rows m)) L x (y + 2 ^ L) ++ sq (dk (mg rows m)) L (x + 2 ^ L) (y + 2 ^ L))))) ++ outs (dk (mg rows m)) r = [2] ++ (sq (dk (mg rows m)) L x y ++ (sq (dk (mg rows m)) L (x + 2 ^ L) y ++ (sq (dk (mg rows m)) L x (y + 2 ^ L) ++ (sq (dk (mg rows m)) L (x + 2 ^ L) (y + 2 ^ L) ++ outs (dk (mg rows m)) r)))) := by
              simp only [List.cons_append, List.append_assoc, List.nil_append]
            rw [el] at hQ
            have z1 : ctl 1 [2] = 0 := rfl
            have z2 : ctl 2 [2] = 1 := rfl
            refine hQ aX aY aS ww sg2 mn2 T2 a2 b2 c2 e2' (tells_app (by rw [esg]; exact tells_one 2 T sg) t) ?_ w2 w3 w4 w5 ?_ ?_ ?_ ?_
            · rw [List.length_append, w1]; show _ = T + (1 + _); omega
            · rw [ctl_app, List.length_append]; show a2 + (ctl 2 [2] + _) = a + (1 + _); omega
            · rw [ctl_app]; omega
            · rw [ctl_app]; omega
            · omega
      · rw [if_pos rfl]
        obtain ⟨s1, s2⟩ := sq_any hu
        rw [s1] at hN hT hQ
        rw [dp2_u hu] at hQ
        simp only [List.length_cons, List.length_append, List.length_nil] at hN hT
        dsimp only [jn]
        rw [br1, e_darkN rows hm (by omega) (by omega)]
        unfold wj_Md_shows_113
        rw [clN (by omega), nI_1]
        refine ⟨vp_in_nI (by omega) (by omega), fun sg' esg sn esn => ⟨v04, ?_⟩⟩
        dsimp only [jn]
        rw [br1]
        unfold wj_Md_shows_153
        rw [cl0]
        refine ⟨v04, fun m1 em1 => ⟨v14, ?_⟩⟩
        dsimp only [jn]
        have f0 : m1 0 = nI (a + 1) := by rw [em1, pk_us, h0, nI_1]
        have f1 : m1 1 = nI b := by rw [em1, pk_un (by decide), h1]
        have f2 : m1 2 = nI c := by rw [em1, pk_un (by decide), h2]
        have f3 : m1 3 = nI e := by rw [em1, pk_un (by decide), h3]
        subst esn
        have fin : ∀ (t : Nat), t < 2 → (if dk (mg rows m) x y = true then 1 else 0) = t → sg' = upd sg T (nI t) → wj_Md_shows_173 wX wY wS (wl_Md_shows_38 rows (nI m) Q (N + 1)) (nI v) (nI x) (nI y) (nI (2 ^ L)) 1 sg' (nI (T + 1)) m1 (nI (ctl 1 [t])) := by
          intro t ht et eg
          rw [et] at hQ
          refine sh_t1 (fun mn' g0 g1 g2 g3 => ?_)
          refine ih r v (T + 1) (a + 1) (b + ctl 1 [t]) c e _ wX wY wS sg' mn' hr (by omega) (by omega) (by rw [g0, f0]) (by rw [g1, f1, nI_add]) (by rw [g2, f2]) (by rw [g3, f3]) he (fun aX aY aS ww sg2 mn2 T2 a2 b2 c2 e2' t' w1 w2 w3 w4 w5 w6 w7 w8 w9 => ?_)
          have z2 : ctl 2 [t] = 0 := by
            show (if t = 2 then 1 else 0) + 0 = 0
            rw [if_neg (by omega)]
          refine hQ aX aY aS ww sg2 mn2 T2 a2 b2 c2 e2' (tells_app (by rw [eg]; exact tells_one t T sg) t') ?_ w2 w3 w4 w5 ?_ ?_ ?_ ?_
          · rw [List.length_append, w1]; show _ = T + (1 + _); omega
          · rw [ctl_app, List.length_append]; show a2 + (ctl 2 [t] + _) = a + (1 + _); omega
          · rw [ctl_app]; omega
          · rw [ctl_app]; omega
          · omega
        cases hd : dk (mg rows m) x y
        · rw [hd] at esg
          rw [if_neg (by decide), brB (show ¬ (0 : Int32) = 1 by decide)]
          exact fin 0 (by omega) (by rw [hd]; rfl) (by rw [esg]; rfl)
        · rw [hd] at esg
          rw [if_pos rfl, brA (show (1 : Int32) = 1 from rfl)]
          exact fin 1 (by omega) (by rw [hd]; rfl) (by rw [esg]; rfl)
/-- the reference shows a mask -/
theorem t_shows {rows wX wY wS sg mn : IA} {m : Nat} (hm : m < 4) {Q : IA → IA → IA → Int32 → IA → Int32 → IA → Prop}
    (hQ : ∀ (wX' wY' wS' : IA) (ww : Int32) (sg' mn' : IA), nums sg' (sq (dk (mg rows m)) 4 0 0) → mn' 0 = nI ((sq (dk (mg rows m)) 4 0 0).length - (sq (dk (mg rows m)) 4 0 0).count 2) → mn' 1 = nI ((sq (dk (mg rows m)) 4 0 0).count 1) → mn' 2 = nI ((sq (dk (mg rows m)) 4 0 0).count 2) → mn' 3 = nI (dpt (dk (mg rows m)) 4 0 0) → Q wX' wY' wS' ww sg' (nI (sq (dk (mg rows m)) 4 0 0).length) mn') : wp_Md_shows rows wX wY wS sg mn (nI m) Q := by
  unfold wp_Md_shows
  refine lp (fun n i (s : IA) => wl_Md_shows_7 (wx_Md_shows_25 rows wX wY wS sg (nI m) Q) n (nI i) s) (fun i s => ∀ j, j < i → s j = 0) 4 mn (fun j hj => by omega) (fun n s h => ?_) (fun n i s hi h ih => ?_)
  · rw [wl_Md_shows_7]
    refine ⟨fun _ => ?_, fun q => absurd (by decide) q⟩
    unfold wx_Md_shows_25
    refine t_later (w := 0) (by omega) ?_
    have hst : stk (upd wX 0 0) (upd wY 0 0) (upd wS 0 16) 1 [(4, 0, 0)] := ⟨0, rfl, by decide, by decide, by decide, pk_us, pk_us, pk_us, rfl⟩
    have eo : outs (dk (mg rows m)) [(4, 0, 0)] = sq (dk (mg rows m)) 4 0 0 := by
      show sq (dk (mg rows m)) 4 0 0 ++ [] = _
      rw [List.append_nil]
    have ed : dmx (dk (mg rows m)) [(4, 0, 0)] = dpt (dk (mg rows m)) 4 0 0 := by
      show max (dp2 (dk (mg rows m)) 4 0 0) 0 = _
      rw [dp2_4]; omega
    refine ⟨341 + 1, t_shL hm 341 [(4, 0, 0)] 1 0 0 0 0 0 _ _ _ _ _ s hst (by rw [eo]; exact sq_341 _ _ _) (by rw [eo]; have := sq_341 (dk (mg rows m)) 0 0; omega) (h 0 (by omega)) (h 1 (by omega)) (h 2 (by omega)) (h 3 (by omega)) (by omega) (fun wX' wY' wS' ww sg' mn' T' a' b' c' e' t w1 w2 w3 w4 w5 w6 w7 w8 w9 => ?_)⟩
    rw [eo] at t w1 w6 w7 w8
    rw [ed] at w9
    rw [w1, Nat.zero_add]
    refine hQ wX' wY' wS' ww sg' mn' (fun i hi => ?_) ?_ ?_ ?_ ?_
    · have := t.2 i hi
      rw [Nat.zero_add] at this
      exact this
    · rw [w2, ← ctl_eq]; congr 1; omega
    · rw [w3, w7, Nat.zero_add, ctl_eq]
    · rw [w4, w8, Nat.zero_add, ctl_eq]
    · rw [w5, w9, show max 0 (dpt (dk (mg rows m)) 4 0 0) = dpt (dk (mg rows m)) 4 0 0 by omega]
  · rw [wl_Md_shows_7]
    refine ⟨fun q => absurd q (nI_ge (b := 4) hi (by omega)), fun _ => ⟨vp_in_nI hi (by omega), fun f1 e1 => ?_⟩⟩
    subst e1
    rw [nI_1, clN (by omega)]
    refine ih _ (fun j hj => ?_)
    by_cases q : j = i
    · subst q; exact pk_us
    · rw [pk_un q]; exact h j (by omega)
