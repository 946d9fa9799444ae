/-! The parts as they are gathered. -/
theorem dc_in {d : Nat → Nat → Bool} {c : Nat} (h : c < 256) : dc d c = d (c % 16) (c / 16) := by
  unfold dc
  rw [decide_eq_true h, Bool.true_and]
theorem e_labelAt (lab : IA) {x y : Nat} (hx : x < 16) (hy : y < 16) (Q : Int32 → Prop) : wp_Pa_labelAt lab (nI x) (nI y) Q ↔ Q (lab (16 * y + x)) := by
  unfold wp_Pa_labelAt
  have e : nI y * 16 + nI x = nI (16 * y + x) := by
    rw [show (16 : Int32) = nI 16 from rfl, pk_mul, nI_add, Nat.mul_comm]
  rw [brB (nI_pos (by omega)), brB (ge16 hx), brB (nI_pos (by omega)), brB (ge16 hy), e, clN (by omega)]
  exact ⟨fun h => h.2, fun h => ⟨vp_in_nI (by omega) (by omega), h⟩⟩
/-- while a part is gathered: e cells are come to, t are worked through; H are neighbours that have been looked at -/
def GI (p : Nat → Bool) (lab0 : IA) (n r : Nat) (lab rch : IA) (e t : Nat) (H : Nat → Prop) : Prop :=
  (∀ c, c < 256 → lab c = lab0 c ∨ (lab0 c = (-1) ∧ lab c = nI n ∧ p c = true ∧ Conn p r c)) ∧
  (∀ j, j < e → ∃ c, c < 256 ∧ rch j = nI c ∧ lab c = nI n ∧ lab0 c = (-1)) ∧
  (∀ c, c < 256 → lab c = nI n → ∃ j, j < e ∧ rch j = nI c) ∧
  (∀ j j', j < j' → j' < e → rch j ≠ rch j') ∧
  e = fb_ct (fun c => decide (lab c = nI n)) 256 ∧
  (∀ j, j < t → ∀ c c', c < 256 → rch j = nI c → adj c c' → p c' = true → lab c' ≠ (-1)) ∧
  (∀ c', H c' → p c' = true → lab c' ≠ (-1))
theorem GI_H {p : Nat → Bool} {lab0 lab rch : IA} {n r e t : Nat} {H H' : Nat → Prop} (h : GI p lab0 n r lab rch e t H) (hH : ∀ c', H' c' → p c' = true → lab c' ≠ (-1)) : GI p lab0 n r lab rch e t H' :=
  ⟨h.1, h.2.1, h.2.2.1, h.2.2.2.1, h.2.2.2.2.1, h.2.2.2.2.2.1, hH⟩
theorem GI_e {p : Nat → Bool} {lab0 lab rch : IA} {n r e t : Nat} {H : Nat → Prop} (h : GI p lab0 n r lab rch e t H) : e ≤ 256 := by
  rw [h.2.2.2.2.1]
  exact fb_ct_le _ _
theorem ct_put {lab : IA} {n c : Nat} (hc : c < 256) (hl : lab c ≠ nI n) : fb_ct (fun k => decide (upd lab c (nI n) k = nI n)) 256 = fb_ct (fun k => decide (lab k = nI n)) 256 + 1 := by
  have e : (fun k => decide (upd lab c (nI n) k = nI n)) = fun k => if k = c then true else decide (lab k = nI n) := by
    funext k
    by_cases q : k = c
    · subst q
      rw [if_pos rfl, pk_us, decide_eq_true rfl]
    · rw [if_neg q, pk_un q]
  rw [e]
  have := fb_ct_upd (fun k => decide (lab k = nI n)) true hc
  rw [decide_eq_false hl] at this
  simpa using this
theorem GI_add {p : Nat → Bool} {lab0 lab rch : IA} {n r e t c : Nat} {H : Nat → Prop} (hn : n < 128) (hte : t ≤ e) (h : GI p lab0 n r lab rch e t H) (hc : c < 256) (hl : lab c = (-1)) (hp : p c = true) (hcn : Conn p r c) : e < 256 ∧ GI p lab0 n r (upd lab c (nI n)) (upd rch e (nI c)) (e + 1) t (fun c' => H c' ∨ c' = c) := by
  obtain ⟨h1, h2, h3, h4, h5, h6, h7⟩ := h
  have nm : ¬ nI n = (-1) := nI_m1 (by omega)
  have ln : lab c ≠ nI n := by rw [hl]; exact fun w => nm w.symm
  have l0 : lab0 c = (-1) := by
    rcases h1 c hc with w | ⟨_, w, _⟩
    · rw [← w]; exact hl
    · exact absurd w ln
  have hct := ct_put hc ln
  have hle := fb_ct_le (fun k => decide (upd lab c (nI n) k = nI n)) 256
  have mono : ∀ x, lab x ≠ (-1) → upd lab c (nI n) x ≠ (-1) := by
    intro x hx
    by_cases q : x = c
    · subst q; rw [pk_us]; exact nm
    · rw [pk_un q]; exact hx
  refine ⟨by omega, fun x hx => ?_, fun j hj => ?_, fun x hx e1 => ?_, fun j j' hjj hj' => ?_, by rw [hct, ← h5], fun j hj x x' hx e1 ha hpx => ?_, fun x hx hpx => ?_⟩
  · by_cases q : x = c
    · subst q; rw [pk_us]; exact Or.inr ⟨l0, rfl, hp, hcn⟩
    · rw [pk_un q]; exact h1 x hx
  · by_cases q : j = e
    · subst q; exact ⟨c, hc, pk_us, pk_us, l0⟩
    · obtain ⟨x, a1, a2, a3, a4⟩ := h2 j (by omega)
      refine ⟨x, a1, by rw [pk_un q]; exact a2, ?_, a4⟩
      by_cases w : x = c
      · subst w; exact pk_us
      · rw [pk_un w]; exact a3
  · by_cases q : x = c
    · subst q; exact ⟨e, by omega, pk_us⟩
    · rw [pk_un q] at e1
      obtain ⟨j, a1, a2⟩ := h3 x hx e1
      exact ⟨j, by omega, by rw [pk_un (by omega)]; exact a2⟩
  · have ne : ∀ j, j < e → rch j ≠ nI c := by
      intro j hj w
      obtain ⟨x, a1, a2, a3, _⟩ := h2 j hj
      rw [w] at a2
      have := nI_inj (by omega) (by omega) a2
      subst this
      exact ln a3
    by_cases q : j' = e
    · subst q
      rw [pk_us, pk_un (by omega)]
      exact ne j hjj
    · rw [pk_un q, pk_un (by omega)]
      exact h4 j j' hjj (by omega)
  · rw [pk_un (by omega)] at e1
    exact mono _ (h6 j hj x x' hx e1 ha hpx)
  · rcases hx with w | w
    · exact mono _ (h7 x w hpx)
    · subst w; rw [pk_us]; exact nm
def figU (b : Bool) (fig : IA) (n : Nat) : IA := if b then fig else upd fig (6 * n + 1) (fig (6 * n + 1) + 1)
theorem figU_at (b : Bool) (fig : IA) (n : Nat) {v : Nat} (h : fig (6 * n + 1) = nI v) : figU b fig n (6 * n + 1) = nI (v + if b then 0 else 1) := by
  unfold figU
  cases b
  · rw [if_neg (by decide), pk_us, h, nI_1]; rfl
  · rw [if_pos rfl, h]; rfl
theorem figU_ne (b : Bool) (fig : IA) (n : Nat) {j : Nat} (h : j ≠ 6 * n + 1) : figU b fig n j = fig j := by
  unfold figU
  cases b
  · rw [if_neg (by decide), pk_un h]
  · rw [if_pos rfl]
theorem s_reach {S lab0 lab rch fig : IA} {n r e t : Nat} {H : Nat → Prop} {X Y : Int32} (hn : n < 128) (hte : t ≤ e) (hG : GI (dc (dk S)) lab0 n r lab rch e t H) (hcon : ∀ c : Nat, c < 256 → X.toInt = ((c % 16 : Nat) : Int) → Y.toInt = ((c / 16 : Nat) : Int) → dc (dk S) c = true → Conn (dc (dk S)) r c) {Q : Int32 → IA → IA → IA → Prop}
    (hQ : ∀ lab' rch' e', GI (dc (dk S)) lab0 n r lab' rch' e' t (fun c => H c ∨ (c < 256 ∧ X.toInt = ((c % 16 : Nat) : Int) ∧ Y.toInt = ((c / 16 : Nat) : Int))) → (∀ j, j < e → rch' j = rch j) → e ≤ e' → Q (nI e') lab' rch' (figU (dz S X.toInt Y.toInt) fig n)) : wp_Pa_reach S lab rch fig (nI n) X Y (nI e) Q := by
  unfold wp_Pa_reach
  rw [e_isDarkZ]
  have e61 : nI n * 6 + 1 = nI (6 * n + 1) := by
    rw [show (6 : Int32) = nI 6 from rfl, pk_mul, nI_1, Nat.mul_comm]
  cases hz : dz S X.toInt Y.toInt
  · rw [hz] at hQ
    rw [if_neg (by decide), br0, e61, clN (by omega)]
    refine ⟨vp_in_nI (by omega) (by omega), vp_in_nI (by omega) (by omega), fun f1 e1 => ?_⟩
    subst e1
    refine hQ lab rch e (GI_H hG (fun c hc hp => ?_)) (fun _ _ => rfl) (Nat.le_refl e)
    rcases hc with w | ⟨w1, w2, w3⟩
    · exact hG.2.2.2.2.2.2 c w hp
    · exfalso
      rw [w2, w3, dz_nat, ← dc_in (d := dk S) w1, hp] at hz
      cases hz
  · rw [hz] at hQ
    rw [if_pos rfl, br1]
    have hb : (0 ≤ X.toInt ∧ X.toInt < 16 ∧ 0 ≤ Y.toInt ∧ Y.toInt < 16) := by
      unfold dz at hz
      rw [Bool.and_eq_true] at hz
      exact of_decide_eq_true hz.1
    obtain ⟨x, hx, rfl⟩ := vp_in_of (x := X) (n := 16) (by rw [vin]; omega) (by omega)
    obtain ⟨y, hy, rfl⟩ := vp_in_of (x := Y) (n := 16) (by rw [vin]; omega) (by omega)
    rw [n_t (by omega), n_t (by omega)] at hcon hQ hz
    rw [dz_nat] at hz
    have ec : nI y * 16 + nI x = nI (16 * y + x) := by
      rw [show (16 : Int32) = nI 16 from rfl, pk_mul, nI_add, Nat.mul_comm]
    have hc : 16 * y + x < 256 := by omega
    have m1 : (16 * y + x) % 16 = x := by omega
    have m2 : (16 * y + x) / 16 = y := by omega
    have hp : dc (dk S) (16 * y + x) = true := by rw [dc_in hc, m1, m2]; exact hz
    have hcn := hcon (16 * y + x) hc (by rw [m1]) (by rw [m2]) hp
    rw [e_labelAt lab hx hy, ec, clN (by omega)]
    refine ⟨fun q => ?_, fun q => ?_⟩
    · obtain ⟨he, hA⟩ := GI_add hn hte hG hc q hp hcn
      rw [clN (by omega), nI_1]
      refine ⟨fun _ => ⟨vp_in_nI hc (by omega), fun l1 el1 => ⟨vp_in_nI he (by omega), fun r1 er1 => ?_⟩⟩, fun w => absurd (nI_lt (a := e) (b := 256) he (by omega)) w⟩
      subst el1; subst er1
      refine hQ _ _ (e + 1) (GI_H hA (fun c hc' hpc => ?_)) (fun j hj => pk_un (by omega)) (by omega)
      rcases hc' with w | ⟨w1, w2, w3⟩
      · exact hA.2.2.2.2.2.2 c (Or.inl w) hpc
      · exact hA.2.2.2.2.2.2 c (Or.inr (by omega)) hpc
    · refine hQ lab rch e (GI_H hG (fun c hc' hpc => ?_)) (fun _ _ => rfl) (Nat.le_refl e)
      rcases hc' with w | ⟨w1, w2, w3⟩
      · exact hG.2.2.2.2.2.2 c w hpc
      · rw [show c = 16 * y + x by omega]; exact q
theorem s_begin {fig : IA} {n : Nat} {a b : Int32} (hn : n < 128) {Q : IA → Prop} (hQ : ∀ fig' : IA, fig' (6 * n) = 0 → fig' (6 * n + 1) = 0 → fig' (6 * n + 2) = a → fig' (6 * n + 3) = b → fig' (6 * n + 4) = a → fig' (6 * n + 5) = b → (∀ j, (j < 6 * n ∨ 6 * n + 6 ≤ j) → fig' j = fig j) → Q fig') : wp_Pa_beginFigures fig (nI n) a b Q := by
  unfold wp_Pa_beginFigures
  intro x3 e3
  have e3' : x3 = nI (6 * n) := by rw [e3, show (6 : Int32) = nI 6 from rfl, pk_mul, Nat.mul_comm]
  clear e3
  subst e3'
  have a0 : nI (6 * n) + 0 = nI (6 * n) := Int32.add_zero _
  have a1 : nI (6 * n) + 1 = nI (6 * n + 1) := nI_add _ 1
  have a2 : nI (6 * n) + 2 = nI (6 * n + 2) := nI_add _ 2
  have a3 : nI (6 * n) + 3 = nI (6 * n + 3) := nI_add _ 3
  have a4 : nI (6 * n) + 4 = nI (6 * n + 4) := nI_add _ 4
  have a5 : nI (6 * n) + 5 = nI (6 * n + 5) := nI_add _ 5
  rw [a0, a1, a2, a3, a4, a5, clN (by omega), clN (by omega), clN (by omega), clN (by omega), clN (by omega), clN (by omega)]
  refine ⟨vp_in_nI (by omega) (by omega), fun f1 e1 => ⟨vp_in_nI (by omega) (by omega), fun f2 e2 => ⟨vp_in_nI (by omega) (by omega), fun f3 e3 => ⟨vp_in_nI (by omega) (by omega), fun f4 e4 => ⟨vp_in_nI (by omega) (by omega), fun f5 e5 => ⟨vp_in_nI (by omega) (by omega), fun f6 e6 => ?_⟩⟩⟩⟩⟩⟩
  subst e1; subst e2; subst e3; subst e4; subst e5; subst e6
  refine hQ _ ?_ ?_ ?_ ?_ ?_ ?_ (fun j hj => ?_)
  · rw [pk_un (by omega), pk_un (by omega), pk_un (by omega), pk_un (by omega), pk_un (by omega), pk_us]
  · rw [pk_un (by omega), pk_un (by omega), pk_un (by omega), pk_un (by omega), pk_us]
  · rw [pk_un (by omega), pk_un (by omega), pk_un (by omega), pk_us]
  · rw [pk_un (by omega), pk_un (by omega), pk_us]
  · rw [pk_un (by omega), pk_us]
  · rw [pk_us]
  · rw [pk_un (by omega), pk_un (by omega), pk_un (by omega), pk_un (by omega), pk_un (by omega), pk_un (by omega)]
theorem s_note {fig : IA} {n : Nat} {a b : Int32} (hn : n < 128) {Q : IA → Prop} (hQ : ∀ fig' : IA, fig' (6 * n) = fig (6 * n) + 1 → fig' (6 * n + 1) = fig (6 * n + 1) → fig' (6 * n + 2) = jmin (fig (6 * n + 2)) a → fig' (6 * n + 3) = jmin (fig (6 * n + 3)) b → fig' (6 * n + 4) = jmax (fig (6 * n + 4)) a → fig' (6 * n + 5) = jmax (fig (6 * n + 5)) b → (∀ j, (j < 6 * n ∨ 6 * n + 6 ≤ j) → fig' j = fig j) → Q fig') : wp_Pa_noteFigures fig (nI n) a b Q := by
  unfold wp_Pa_noteFigures
  intro x3 e3
  have e3' : x3 = nI (6 * n) := by rw [e3, show (6 : Int32) = nI 6 from rfl, pk_mul, Nat.mul_comm]
  clear e3
  subst e3'
  have a0 : nI (6 * n) + 0 = nI (6 * n) := Int32.add_zero _
  have a2 : nI (6 * n) + 2 = nI (6 * n + 2) := nI_add _ 2
  have a3 : nI (6 * n) + 3 = nI (6 * n + 3) := nI_add _ 3
  have a4 : nI (6 * n) + 4 = nI (6 * n + 4) := nI_add _ 4
  have a5 : nI (6 * n) + 5 = nI (6 * n + 5) := nI_add _ 5
  rw [a0, a2, a3, a4, a5, clN (by omega), clN (by omega), clN (by omega), clN (by omega), clN (by omega)]
  refine ⟨vp_in_nI (by omega) (by omega), vp_in_nI (by omega) (by omega), fun f1 e1 => ⟨vp_in_nI (by omega) (by omega), vp_in_nI (by omega) (by omega), fun f2 e2 => ⟨vp_in_nI (by omega) (by omega), vp_in_nI (by omega) (by omega), fun f3 e3 => ⟨vp_in_nI (by omega) (by omega), vp_in_nI (by omega) (by omega), fun f4 e4 => ⟨vp_in_nI (by omega) (by omega), vp_in_nI (by omega) (by omega), fun f5 e5 => ?_⟩⟩⟩⟩⟩
  have g2 : f1 (6 * n + 2) = fig (6 * n + 2) := by rw [e1, pk_un (by omega)]
  have g3 : f2 (6 * n + 3) = fig (6 * n + 3) := by rw [e2, pk_un (by omega), e1, pk_un (by omega)]
  have g4 : f3 (6 * n + 4) = fig (6 * n + 4) := by rw [e3, pk_un (by omega), e2, pk_un (by omega), e1, pk_un (by omega)]
  have g5 : f4 (6 * n + 5) = fig (6 * n + 5) := by rw [e4, pk_un (by omega), e3, pk_un (by omega), e2, pk_un (by omega), e1, pk_un (by omega)]
  rw [g2] at e2
  rw [g3] at e3
  rw [g4] at e4
  rw [g5] at e5
  clear g2 g3 g4 g5
  subst e1; subst e2; subst e3; subst e4; subst e5
  refine hQ _ ?_ ?_ ?_ ?_ ?_ ?_ (fun j hj => ?_)
  · rw [pk_un (by omega), pk_un (by omega), pk_un (by omega), pk_un (by omega), pk_us]
  · rw [pk_un (by omega), pk_un (by omega), pk_un (by omega), pk_un (by omega), pk_un (by omega)]
  · rw [pk_un (by omega), pk_un (by omega), pk_un (by omega), pk_us]
  · rw [pk_un (by omega), pk_un (by omega), pk_us]
  · rw [pk_un (by omega), pk_us]
  · rw [pk_us]
  · rw [pk_un (by omega), pk_un (by omega), pk_un (by omega), pk_un (by omega), pk_un (by omega)]
/-- the cells worked through -/
def prb (rch : IA) : Nat → Nat → Bool
  | 0, _ => false
  | t + 1, c => prb rch t c || decide (rch t = nI c)
theorem prb_iff (rch : IA) : ∀ t c, prb rch t c = true ↔ ∃ j, j < t ∧ rch j = nI c
  | 0, c => by
    constructor
    · intro h
      exact absurd (show false = true from h) (by decide)
    · rintro ⟨j, hj, _⟩
      omega
  | t + 1, c => by
    show (prb rch t c || decide (rch t = nI c)) = true ↔ _
    rw [Bool.or_eq_true, prb_iff rch t c, decide_eq_true_iff]
    constructor
    · rintro (⟨j, a, b⟩ | h)
      · exact ⟨j, by omega, b⟩
      · exact ⟨t, by omega, h⟩
    · rintro ⟨j, a, b⟩
      by_cases q : j = t
      · subst q; exact Or.inr b
      · exact Or.inl ⟨j, by omega, b⟩
theorem prb_congr {r1 r2 : IA} : ∀ t, (∀ j, j < t → r1 j = r2 j) → prb r1 t = prb r2 t
  | 0, _ => rfl
  | t + 1, h => by
    funext c
    show (prb r1 t c || decide (r1 t = nI c)) = (prb r2 t c || decide (r2 t = nI c))
    rw [prb_congr t (fun j hj => h j (by omega)), h t (by omega)]
theorem prb_sm {rch : IA} {t c0 : Nat} {g : Nat → Nat} (hc : c0 < 256) (h : rch t = nI c0) (hno : prb rch t c0 = false) : fb_sm (fun c => if prb rch (t + 1) c then g c else 0) 256 = fb_sm (fun c => if prb rch t c then g c else 0) 256 + g c0 := by
  have e : fb_sm (fun c => if prb rch (t + 1) c then g c else 0) 256 = fb_sm (fun k => if k = c0 then g c0 else (if prb rch t k then g k else 0)) 256 := by
    apply fb_sm_cong
    intro k hk
    show (if (prb rch t k || decide (rch t = nI k)) = true then g k else 0) = _
    by_cases q : k = c0
    · subst q
      rw [decide_eq_true h, Bool.or_true, if_pos rfl, if_pos rfl]
    · rw [decide_eq_false (fun w => q (nI_inj (by omega) (by omega) (by rw [← w, h]))), Bool.or_false, if_neg q]
  rw [e]
  have := fb_sm_upd (fun k => if prb rch t k then g k else 0) (g c0) hc
  rw [hno] at this
  simpa using this
/-- the least so far: among the cells come to, not above any worked through -/
def lea (lab rch : IA) (n t : Nat) (g : Nat → Nat) (v : Int32) : Prop := ∃ c, c < 256 ∧ lab c = nI n ∧ v = nI (g c) ∧ ∀ c', c' < 256 → prb rch t c' = true → g c ≤ g c'
def mos (lab rch : IA) (n t : Nat) (g : Nat → Nat) (v : Int32) : Prop := ∃ c, c < 256 ∧ lab c = nI n ∧ v = nI (g c) ∧ ∀ c', c' < 256 → prb rch t c' = true → g c' ≤ g c
theorem prb_s {rch : IA} {t c0 c : Nat} (hc0 : c0 < 256) (hc : c < 256) (h : rch t = nI c0) : prb rch (t + 1) c = true ↔ prb rch t c = true ∨ c = c0 := by
  show (prb rch t c || decide (rch t = nI c)) = true ↔ _
  rw [Bool.or_eq_true, decide_eq_true_iff, h]
  constructor
  · rintro (w | w)
    · exact Or.inl w
    · exact Or.inr (nI_inj (by omega) (by omega) w.symm)
  · rintro (w | w)
    · exact Or.inl w
    · exact Or.inr (by rw [w])
theorem lea_s {lab rch : IA} {n t c0 : Nat} {g : Nat → Nat} {v : Int32} (hg : ∀ c, c < 256 → g c < 16) (h : lea lab rch n t g v) (hc0 : c0 < 256) (hr : rch t = nI c0) (hl : lab c0 = nI n) : lea lab rch n (t + 1) g (jmin v (nI (g c0))) := by
  obtain ⟨c, h1, h2, h3, h4⟩ := h
  have g1 := hg c h1
  have g2 := hg c0 hc0
  rw [h3, jmin_n (by omega) (by omega)]
  by_cases q : g c ≤ g c0
  · refine ⟨c, h1, h2, by rw [show min (g c) (g c0) = g c by omega], fun c' hc' hp => ?_⟩
    rcases (prb_s hc0 hc' hr).mp hp with w | w
    · exact h4 c' hc' w
    · rw [w]; exact q
  · refine ⟨c0, hc0, hl, by rw [show min (g c) (g c0) = g c0 by omega], fun c' hc' hp => ?_⟩
    rcases (prb_s hc0 hc' hr).mp hp with w | w
    · have := h4 c' hc' w; omega
    · rw [w]; exact Nat.le_refl _
theorem mos_s {lab rch : IA} {n t c0 : Nat} {g : Nat → Nat} {v : Int32} (hg : ∀ c, c < 256 → g c < 16) (h : mos lab rch n t g v) (hc0 : c0 < 256) (hr : rch t = nI c0) (hl : lab c0 = nI n) : mos lab rch n (t + 1) g (jmax v (nI (g c0))) := by
  obtain ⟨c, h1, h2, h3, h4⟩ := h
  have g1 := hg c h1
  have g2 := hg c0 hc0
  rw [h3, jmax_n (by omega) (by omega)]
  by_cases q : g c0 ≤ g c
  · refine ⟨c, h1, h2, by rw [show max (g c) (g c0) = g c by omega], fun c' hc' hp => ?_⟩
    rcases (prb_s hc0 hc' hr).mp hp with w | w
    · exact h4 c' hc' w
    · rw [w]; exact q
  · refine ⟨c0, hc0, hl, by rw [show max (g c) (g c0) = g c0 by omega], fun c' hc' hp => ?_⟩
    rcases (prb_s hc0 hc' hr).mp hp with w | w
    · have := h4 c' hc' w; omega
    · rw [w]; exact Nat.le_refl _
theorem lea_c {lab lab' rch rch' : IA} {n t : Nat} {g : Nat → Nat} {v : Int32} (h : lea lab rch n t g v) (hl : ∀ c, c < 256 → lab c = nI n → lab' c = nI n) (hr : ∀ j, j < t → rch' j = rch j) : lea lab' rch' n t g v := by
  obtain ⟨c, h1, h2, h3, h4⟩ := h
  exact ⟨c, h1, hl c h1 h2, h3, by rw [prb_congr t hr]; exact h4⟩
theorem mos_c {lab lab' rch rch' : IA} {n t : Nat} {g : Nat → Nat} {v : Int32} (h : mos lab rch n t g v) (hl : ∀ c, c < 256 → lab c = nI n → lab' c = nI n) (hr : ∀ j, j < t → rch' j = rch j) : mos lab' rch' n t g v := by
  obtain ⟨c, h1, h2, h3, h4⟩ := h
  exact ⟨c, h1, hl c h1 h2, h3, by rw [prb_congr t hr]; exact h4⟩
def GF (d : Nat → Nat → Bool) (lab rch fig : IA) (n t : Nat) : Prop :=
  fig (6 * n) = nI t ∧ fig (6 * n + 1) = nI (fb_sm (fun c => if prb rch t c then sides d c else 0) 256) ∧
  lea lab rch n t (fun c => c % 16) (fig (6 * n + 2)) ∧ lea lab rch n t (fun c => c / 16) (fig (6 * n + 3)) ∧ mos lab rch n t (fun c => c % 16) (fig (6 * n + 4)) ∧ mos lab rch n t (fun c => c / 16) (fig (6 * n + 5))
/-- what a part's gathering leaves -/
def GO (S lab0 lab fig0 fig : IA) (n r : Nat) : Prop := FL (dc (dk S)) lab0 lab r n ∧ (∀ j, (j < 6 * n ∨ 6 * n + 6 ≤ j) → fig j = fig0 j) ∧
  fig (6 * n) = nI (fb_ct (fun c => decide (lab c = nI n)) 256) ∧ fig (6 * n + 1) = nI (fb_sm (fun c => if lab c = nI n then sides (dk S) c else 0) 256) ∧
  isLeast (fun c => lab c = nI n) (fun c => c % 16) (fig (6 * n + 2)) ∧ isLeast (fun c => lab c = nI n) (fun c => c / 16) (fig (6 * n + 3)) ∧
  isMost (fun c => lab c = nI n) (fun c => c % 16) (fig (6 * n + 4)) ∧ isMost (fun c => lab c = nI n) (fun c => c / 16) (fig (6 * n + 5))
theorem GI_keep {p : Nat → Bool} {lab0 lab lab' rch rch' : IA} {n r e e' t : Nat} {H H' : Nat → Prop} (hn : n < 128) (h : GI p lab0 n r lab rch e t H) (h' : GI p lab0 n r lab' rch' e' t H') (hr : ∀ j, j < e → rch' j = rch j) (hee : e ≤ e') : ∀ c, c < 256 → lab c = nI n → lab' c = nI n := by
  intro c hc hl
  obtain ⟨j, a, b⟩ := h.2.2.1 c hc hl
  obtain ⟨c2, a1, a2, a3, _⟩ := h'.2.1 j (by omega)
  rw [hr j a, b] at a2
  have := nI_inj (by omega) (by omega) a2
  subst this
  exact a3
theorem s_gatherL {S lab0 fig0 : IA} {n r : Nat} (hn : n < 128) {Q : IA → IA → IA → Prop} (hQ : ∀ lab rch fig, GO S lab0 lab fig0 fig n r → Q lab rch fig) : ∀ (N t e : Nat) (x3 x2 : Int32) (lab rch fig : IA), 256 - t ≤ N → t ≤ e → GI (dc (dk S)) lab0 n r lab rch e t (fun _ => False) → lab r = nI n → GF (dk S) lab rch fig n t → (∀ j, (j < 6 * n ∨ 6 * n + 6 ≤ j) → fig j = fig0 j) → wl_Pa_gather_28 S (nI n) Q (N + 1) (nI t) (nI e) x3 x2 lab rch fig := by
  have fin : ∀ (e : Nat) (lab rch fig : IA), GI (dc (dk S)) lab0 n r lab rch e e (fun _ => False) → lab r = nI n → GF (dk S) lab rch fig n e → (∀ j, (j < 6 * n ∨ 6 * n + 6 ≤ j) → fig j = fig0 j) → Q lab rch fig := by
    intro e lab rch fig hG hr hF ho
    have he := GI_e hG
    obtain ⟨g1, g2, g3, g4, g5, g6, g7⟩ := hG
    obtain ⟨f1, f2, f3, f4, f5, f6⟩ := hF
    have pr : ∀ c, c < 256 → (prb rch e c = true ↔ lab c = nI n) := by
      intro c hc
      rw [prb_iff]
      constructor
      · rintro ⟨j, a, b⟩
        obtain ⟨c2, a1, a2, a3, _⟩ := g2 j a
        rw [b] at a2
        have := nI_inj (by omega) (by omega) a2
        subst this
        exact a3
      · exact g3 c hc
    have le : ∀ (g : Nat → Nat) (v : Int32), lea lab rch n e g v → isLeast (fun c => lab c = nI n) g v := by
      rintro g v ⟨c, h1, h2, h3, h4⟩
      exact ⟨c, h1, h2, h3, fun c' hc' hl => h4 c' hc' ((pr c' hc').mpr hl)⟩
    have mo : ∀ (g : Nat → Nat) (v : Int32), mos lab rch n e g v → isMost (fun c => lab c = nI n) g v := by
      rintro g v ⟨c, h1, h2, h3, h4⟩
      exact ⟨c, h1, h2, h3, fun c' hc' hl => h4 c' hc' ((pr c' hc').mpr hl)⟩
    refine hQ lab rch fig ⟨⟨g1, hr, fun c c' hc h0 hl ha hp => ?_⟩, ho, by rw [f1, ← g5], ?_, le _ _ f3, le _ _ f4, mo _ _ f5, mo _ _ f6⟩
    · obtain ⟨j, a, b⟩ := g3 c hc hl
      exact g6 j a c c' hc b ha hp
    · rw [f2]
      refine congrArg nI ?_
      apply fb_sm_cong
      intro c hc
      by_cases q : lab c = nI n
      · rw [if_pos q, if_pos ((pr c hc).mpr q)]
      · rw [if_neg q, if_neg (fun w => q ((pr c hc).mp w))]
  intro N
  induction N with
  | zero =>
    intro t e x3 x2 lab rch fig hN hte hG hr hF ho
    have he := GI_e hG
    have : e = t := by omega
    subst this
    rw [wl_Pa_gather_28]
    exact ⟨fun _ => fin e lab rch fig hG hr hF ho, fun q => absurd (nI_le (Nat.le_refl e) (by omega)) q⟩
  | succ N ih =>
    intro t e x3 x2 lab rch fig hN hte hG hr hF ho
    have he := GI_e hG
    rw [wl_Pa_gather_28, nI_leI (by omega) (by omega)]
    refine ⟨fun q => ?_, fun q => ⟨fun q2 => ?_, fun _ => ?_⟩⟩
    · have : e = t := by omega
      subst this
      exact fin e lab rch fig hG hr hF ho
    · exact absurd q2 (ge256 (by omega))
    · obtain ⟨c0, hc0, er, hl, hl0⟩ := hG.2.1 t (by omega)
      have hcn : Conn (dc (dk S)) r c0 := by
        rcases hG.1 c0 hc0 with w | ⟨_, _, _, w⟩
        · rw [w, hl0] at hl
          exact absurd hl.symm (nI_m1 (by omega))
        · exact w
      rw [clN (by omega), er, r16d hc0, d16d hc0]
      refine ⟨vp_in_nI (by omega) (by omega), fun vx evx => ⟨vp_in_nI (by omega) (by omega), fun vy evy => ?_⟩⟩
      subst evx; subst evy
      obtain ⟨x, hxe⟩ : ∃ x, x = c0 % 16 := ⟨_, rfl⟩
      obtain ⟨y, hye⟩ : ∃ y, y = c0 / 16 := ⟨_, rfl⟩
      have hx : x < 16 := by omega
      have hy : y < 16 := by omega
      rw [← hxe, ← hye]
      obtain ⟨f1, f2, f3, f4, f5, f6⟩ := hF
      refine s_note hn (fun fg g1 g2 g3 g4 g5 g6 g7 => ?_)
      have con : ∀ (X Y : Int), ((X = x ∧ Y = (y : Int) - 1) ∨ (X = (x : Int) - 1 ∧ Y = y) ∨ (X = (x : Int) + 1 ∧ Y = y) ∨ (X = x ∧ Y = (y : Int) + 1)) → ∀ c : Nat, c < 256 → X = ((c % 16 : Nat) : Int) → Y = ((c / 16 : Nat) : Int) → dc (dk S) c = true → Conn (dc (dk S)) r c := by
        intro X Y hXY c hc eX eY hp
        refine conn_step hcn ?_ hp
        unfold adj
        omega
      have ty1 : (nI y - 1).toInt = (y : Int) - 1 := sub1_t (by omega)
      have tx1 : (nI x - 1).toInt = (x : Int) - 1 := sub1_t (by omega)
      have ty2 : (nI y + 1).toInt = (y : Int) + 1 := add1_t (by omega)
      have tx2 : (nI x + 1).toInt = (x : Int) + 1 := add1_t (by omega)
      have tx : (nI x).toInt = (x : Int) := n_t (by omega)
      have ty : (nI y).toInt = (y : Int) := n_t (by omega)
      refine s_reach hn hte hG (by rw [tx, ty1]; exact con _ _ (Or.inl ⟨rfl, rfl⟩)) (fun l1 r1 e1 G1 k1 m1 => ?_)
      refine s_reach hn (by omega) G1 (by rw [tx1, ty]; exact con _ _ (Or.inr (Or.inl ⟨rfl, rfl⟩))) (fun l2 r2 e2 G2 k2 m2 => ?_)
      refine s_reach hn (by omega) G2 (by rw [tx2, ty]; exact con _ _ (Or.inr (Or.inr (Or.inl ⟨rfl, rfl⟩)))) (fun l3 r3 e3 G3 k3 m3 => ?_)
      refine s_reach hn (by omega) G3 (by rw [tx, ty2]; exact con _ _ (Or.inr (Or.inr (Or.inr ⟨rfl, rfl⟩)))) (fun l4 r4 e4 G4 k4 m4 => ?_)
      rw [tx, ty, tx1, ty1, tx2, ty2, dz_n1, dz_m1, dz_p1, dz_q1, nI_1]
      rw [tx, ty, tx1, ty1, tx2, ty2] at G4
      have kk : ∀ j, j < e → r4 j = rch j := fun j hj => by rw [k4 j (by omega), k3 j (by omega), k2 j (by omega), k1 j hj]
      have KL := GI_keep hn hG G4 kk (by omega)
      have hno : prb r4 t c0 = false := by
        cases hb : prb r4 t c0
        · rfl
        · obtain ⟨j, a, b⟩ := (prb_iff r4 t c0).mp hb
          rw [kk j (by omega)] at b
          exact absurd (b.trans er.symm) (hG.2.2.2.1 j t a (by omega))
      have er4 : r4 t = nI c0 := by rw [kk t (by omega)]; exact er
      have h16 : ∀ c, c < 256 → c % 16 < 16 := fun c _ => by omega
      have h17 : ∀ c, c < 256 → c / 16 < 16 := fun c hc => by omega
      refine ih (t + 1) e4 _ _ l4 r4 _ (by omega) (by omega) ⟨G4.1, G4.2.1, G4.2.2.1, G4.2.2.2.1, G4.2.2.2.2.1, fun j hj c c' hc ec ha hp => ?_, fun _ w => False.elim w⟩ (KL r (by
          rcases Nat.lt_or_ge r 256 with w | w
          · exact w
          · exfalso
            have := hcn (fun z => z = r) rfl (fun a b ha hab _ => by have := hab.1; omega)
            omega) hr) ⟨?_, ?_, ?_, ?_, ?_, ?_⟩ (fun j hj => ?_)
      · by_cases q : j = t
        · subst q
          rw [er4] at ec
          have := nI_inj (by omega) (by omega) ec
          subst this
          refine G4.2.2.2.2.2.2 c' ?_ hp
          unfold adj at ha
          have h3 : ((x : Int) = ((c' % 16 : Nat) : Int) ∧ (y : Int) + 1 = ((c' / 16 : Nat) : Int)) ∨ ((x : Int) + 1 = ((c' % 16 : Nat) : Int) ∧ (y : Int) = ((c' / 16 : Nat) : Int)) ∨ ((x : Int) - 1 = ((c' % 16 : Nat) : Int) ∧ (y : Int) = ((c' / 16 : Nat) : Int)) ∨ ((x : Int) = ((c' % 16 : Nat) : Int) ∧ (y : Int) - 1 = ((c' / 16 : Nat) : Int)) := by omega
          rcases h3 with w | w | w | w
          · exact Or.inr ⟨ha.2.1, w⟩
          · exact Or.inl (Or.inr ⟨ha.2.1, w⟩)
          · exact Or.inl (Or.inl (Or.inr ⟨ha.2.1, w⟩))
          · exact Or.inl (Or.inl (Or.inl (Or.inr ⟨ha.2.1, w⟩)))
        · exact G4.2.2.2.2.2.1 j (by omega) c c' hc ec ha hp
      · rw [figU_ne _ _ _ (by omega), figU_ne _ _ _ (by omega), figU_ne _ _ _ (by omega), figU_ne _ _ _ (by omega), g1, f1, nI_1]
      · rw [figU_at _ _ _ (figU_at _ _ _ (figU_at _ _ _ (figU_at _ _ _ (g2.trans f2)))), prb_sm hc0 er4 hno, prb_congr t (fun j hj => kk j (by omega))]
        refine congrArg nI ?_
        unfold sides
        rw [← hxe, ← hye]
        show _ = _ + (_ + (if (decide (1 ≤ x) && dk S (x - 1) y) = true then 0 else 1) + _ + (if (decide (1 ≤ y) && dk S x (y - 1)) = true then 0 else 1))
        omega
      · rw [figU_ne _ _ _ (by omega), figU_ne _ _ _ (by omega), figU_ne _ _ _ (by omega), figU_ne _ _ _ (by omega), g3, hxe]
        exact lea_s h16 (lea_c f3 KL (fun j hj => kk j (by omega))) hc0 er4 (KL c0 hc0 hl)
      · rw [figU_ne _ _ _ (by omega), figU_ne _ _ _ (by omega), figU_ne _ _ _ (by omega), figU_ne _ _ _ (by omega), g4, hye]
        exact lea_s h17 (lea_c f4 KL (fun j hj => kk j (by omega))) hc0 er4 (KL c0 hc0 hl)
      · rw [figU_ne _ _ _ (by omega), figU_ne _ _ _ (by omega), figU_ne _ _ _ (by omega), figU_ne _ _ _ (by omega), g5, hxe]
        exact mos_s h16 (mos_c f5 KL (fun j hj => kk j (by omega))) hc0 er4 (KL c0 hc0 hl)
      · rw [figU_ne _ _ _ (by omega), figU_ne _ _ _ (by omega), figU_ne _ _ _ (by omega), figU_ne _ _ _ (by omega), g6, hye]
        exact mos_s h17 (mos_c f6 KL (fun j hj => kk j (by omega))) hc0 er4 (KL c0 hc0 hl)
      · rw [figU_ne _ _ _ (by omega), figU_ne _ _ _ (by omega), figU_ne _ _ _ (by omega), figU_ne _ _ _ (by omega), g7 j hj, ho j hj]
theorem s_gather {S lab0 rch fig0 : IA} {n r : Nat} (hn : n < 128) (hr : r < 256) (hp : dc (dk S) r = true) (hl : lab0 r = (-1)) (hno : ∀ c, c < 256 → lab0 c ≠ nI n) {Q : IA → IA → IA → Prop} (hQ : ∀ lab rch fig, GO S lab0 lab fig0 fig n r → Q lab rch fig) : wp_Pa_gather S lab0 rch fig0 (nI n) (nI r) Q := by
  unfold wp_Pa_gather
  rw [r16d hr, d16d hr]
  intro vx evx vy evy
  subst evx; subst evy
  refine s_begin hn (fun fg g1 g2 g3 g4 g5 g6 g7 => ?_)
  have h0 : fb_ct (fun c => decide (lab0 c = nI n)) 256 = 0 := fb_ct_zero.mpr (fun k hk => decide_eq_false (hno k hk))
  have G0 : GI (dc (dk S)) lab0 n r lab0 rch 0 0 (fun _ => False) := ⟨fun c _ => Or.inl rfl, fun j hj => by omega, fun c hc e => absurd e (hno c hc), fun j j' _ hj' => by omega, h0.symm, fun j hj => by omega, fun _ w => False.elim w⟩
  have tx : (nI (r % 16)).toInt = ((r % 16 : Nat) : Int) := n_t (by omega)
  have ty : (nI (r / 16)).toInt = ((r / 16 : Nat) : Int) := n_t (by omega)
  refine s_reach (e := 0) (t := 0) hn (Nat.le_refl 0) G0 (fun c hc eX eY hpc => ?_) (fun l1 r1 e1 G1 k1 m1 => ?_)
  · rw [tx] at eX
    rw [ty] at eY
    rw [show c = r by omega]
    exact conn_refl _ r
  · rw [tx, ty] at G1
    rw [tx, ty, dz_nat, ← dc_in (d := dk S) hr, hp]
    have hl1 : l1 r = nI n := by
      have w := G1.2.2.2.2.2.2 r (Or.inr ⟨hr, rfl, rfl⟩) hp
      rcases G1.1 r hr with z | ⟨_, z, _⟩
      · rw [z, hl] at w
        exact absurd rfl w
      · exact z
    have sm0 : fb_sm (fun c => if prb r1 0 c then sides (dk S) c else 0) 256 = 0 := by
      have := fb_sm_const 0 256
      rw [Nat.mul_zero] at this
      exact this
    refine ⟨256 + 1, s_gatherL hn hQ 256 0 e1 _ _ l1 r1 _ (by omega) (by omega) (GI_H G1 (fun _ w => False.elim w)) hl1 ⟨?_, ?_, ?_, ?_, ?_, ?_⟩ (fun j hj => ?_)⟩
    · rw [figU_ne _ _ _ (by omega), g1]; rfl
    · rw [sm0]
      unfold figU
      rw [if_pos rfl, g2]; rfl
    · rw [figU_ne _ _ _ (by omega), g3]; exact ⟨r, hr, hl1, rfl, fun c' _ h => by cases h⟩
    · rw [figU_ne _ _ _ (by omega), g4]; exact ⟨r, hr, hl1, rfl, fun c' _ h => by cases h⟩
    · rw [figU_ne _ _ _ (by omega), g5]; exact ⟨r, hr, hl1, rfl, fun c' _ h => by cases h⟩
    · rw [figU_ne _ _ _ (by omega), g6]; exact ⟨r, hr, hl1, rfl, fun c' _ h => by cases h⟩
    · rw [figU_ne _ _ _ (by omega), g7 j hj]
theorem s_paLook {dS dL dR dF o : IA} {dP : Int32} (hP : PartsOK dS dL dF dP) (ho : g16 o) {Q : IA → IA → IA → IA → Int32 → Prop} (hQ : ∀ S L R F P, PartsOK S L F P → dk S = dk o → Q S L R F P) : wp_Pa_look dS dL dR dF dP o Q := by
  unfold wp_Pa_look
  refine s_same (fun h => ?_) (fun _ => ?_)
  · rw [br1]
    exact hQ _ _ _ _ _ hP (dk_eq h)
  · rw [br0]
    refine s_take (fun S hS => s_Ar_fill _ 256 (-1) (by omega) (fun L0 hL0 _ => ?_))
    have hg : g16 S := fun y hy => by rw [hS y hy]; exact ho y hy
    refine lp (fun k i (s : IA × IA × IA × Int32) => wl_Pa_look_35 Q S k (nI i) s.1 s.2.1 s.2.2.1 s.2.2.2) (fun i s => ∃ n : Nat, s.2.2.2 = nI n ∧ J (dc (dk S)) s.1 n i ∧ FigOK (dk S) s.1 s.2.2.1 n) 256 (L0, dR, dF, 0) ⟨0, rfl, J_0 hL0, fun k hk => by omega⟩ (fun k s h => ?_) (fun k i s hi h ih => ?_)
    · obtain ⟨L, R, F, P⟩ := s
      obtain ⟨n, h1, h2, h3⟩ := h
      simp only at h1 h2 h3
      show wl_Pa_look_35 Q S (k + 1) (nI 256) L R F P
      rw [wl_Pa_look_35]
      have hE := J_end h2
      exact ⟨fun _ => hQ _ _ _ _ _ ⟨hg, n, hE.1, h1, hE.2, h3⟩ (dk_eq hS), fun q => absurd le256 q⟩
    · obtain ⟨L, R, F, P⟩ := s
      obtain ⟨n, h1, h2, h3⟩ := h
      simp only at h1 h2 h3
      subst h1
      show wl_Pa_look_35 Q S (k + 1) (nI i) L R F (nI n)
      rw [wl_Pa_look_35]
      refine ⟨fun q => absurd q (ge256 hi), fun _ => ⟨vp_in_nI hi (by omega), ?_⟩⟩
      dsimp only [jn]
      rw [clN (by omega), r16d hi, d16d hi, e_isDarkZ, n_t (by omega), n_t (by omega), dz_nat, ← dc_in (d := dk S) hi, nI_1]
      refine ⟨fun q => ?_, fun q => ih (L, R, F, nI n) ⟨n, rfl, J_skip h2 (Or.inl q), h3⟩⟩
      cases hp : dc (dk S) i
      · rw [if_neg (by decide), br0]
        exact ih (L, R, F, nI n) ⟨n, rfl, J_skip h2 (Or.inr hp), h3⟩
      · rw [if_pos rfl, br1]
        have hn := J_new h2 hi hp q
        refine ⟨fun w => absurd w (nI_ge (b := 128) (by omega) (by omega)), fun _ => ?_⟩
        have hno : ∀ c, c < 256 → L c ≠ nI n := by
          intro c hc e
          rcases h2.2.1 c hc with w | ⟨_, k2, hk2, w⟩
          · rw [w] at e; exact nI_m1 (by omega) e.symm
          · rw [w] at e
            have := nI_inj (by omega) (by omega) e
            omega
        refine s_gather (by omega) hi hp q hno (fun L' R' F' hO => ?_)
        intro v ev
        rw [nI_1] at ev
        subst ev
        obtain ⟨o1, o2, o3, o4, o5, o6, o7, o8⟩ := hO
        have keep : ∀ k2 c, k2 < n → c < 256 → (L' c = nI k2 ↔ L c = nI k2) := by
          intro k2 c hk2 hc
          rcases o1.1 c hc with w | ⟨w1, w2, _⟩
          · rw [w]
          · rw [w1, w2]
            exact ⟨fun e => by have := nI_inj (by omega) (by omega) e; omega, fun e => absurd e.symm (nI_m1 (by omega))⟩
        suffices FO : FigOK (dk S) L' F' (n + 1) from ih (L', R', F', nI (n + 1)) ⟨n + 1, rfl, J_step h2 hi hp q o1, FO⟩
        intro k2 hk2
        by_cases z : k2 = n
        · subst z
          exact ⟨o3, o4, o5, o6, o7, o8⟩
        · have hk : k2 < n := by omega
          obtain ⟨u1, u2, u3, u4, u5, u6⟩ := h3 k2 hk
          have cl : ∀ (g : Nat → Nat) (v : Int32), isLeast (fun c => L c = nI k2) g v → isLeast (fun c => L' c = nI k2) g v := by
            rintro g v ⟨c, a1, a2, a3, a4⟩
            exact ⟨c, a1, (keep k2 c hk a1).mpr a2, a3, fun c' hc' e => a4 c' hc' ((keep k2 c' hk hc').mp e)⟩
          have cm : ∀ (g : Nat → Nat) (v : Int32), isMost (fun c => L c = nI k2) g v → isMost (fun c => L' c = nI k2) g v := by
            rintro g v ⟨c, a1, a2, a3, a4⟩
            exact ⟨c, a1, (keep k2 c hk a1).mpr a2, a3, fun c' hc' e => a4 c' hc' ((keep k2 c' hk hc').mp e)⟩
          refine ⟨?_, ?_, ?_, ?_, ?_, ?_⟩
          · rw [o2 _ (by omega), u1]
            refine congrArg nI ?_
            apply fb_ct_cong
            intro c hc
            exact (decide_eq_decide.mpr (keep k2 c hk hc)).symm
          · rw [o2 _ (by omega), u2]
            refine congrArg nI ?_
            apply fb_sm_cong
            intro c hc
            by_cases y : L c = nI k2
            · rw [if_pos y, if_pos ((keep k2 c hk hc).mpr y)]
            · rw [if_neg y, if_neg (fun w => y ((keep k2 c hk hc).mp w))]
          · rw [o2 _ (by omega)]; exact cl _ _ u3
          · rw [o2 _ (by omega)]; exact cl _ _ u4
          · rw [o2 _ (by omega)]; exact cm _ _ u5
          · rw [o2 _ (by omega)]; exact cm _ _ u6
