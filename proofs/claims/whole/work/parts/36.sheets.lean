/-! Sheets. -/
theorem nn0 {x : Int32} (h : 0 ≤ x) : ¬ x < 0 := by
  rw [i_le] at h
  rw [i_lt]
  omega
theorem brA {P A B : Prop} (h : P) : ((P → A) ∧ (¬ P → B)) ↔ A := ⟨fun q => q.1 h, fun q => ⟨fun _ => q, fun w => absurd h w⟩⟩
theorem brB {P A B : Prop} (h : ¬ P) : ((P → A) ∧ (¬ P → B)) ↔ B := ⟨fun q => q.2 h, fun q => ⟨fun w => absurd w h, fun _ => q⟩⟩
theorem n0m1 : ¬ (0 : Int32) ≤ -1 := by decide
theorem m1lt : (-1 : Int32) < 0 := by decide
theorem ix240 (s i : Nat) : (60 : Int32) * nI s + nI i = nI (60 * s + i) := by
  rw [show (60 : Int32) = nI 60 from rfl, pk_mul, nI_add]
theorem sh_put {si : Nat → IA} {sl sf ss forms sizes items items' g : IA} {l f z fo sz : Int32} {s : Nat} (h : ShOK si sl sf ss forms sizes items) (hs : s < 4) (hit : ∀ j, (j < 60 * s ∨ 60 * s + 60 ≤ j) → items' j = items j)
    (hn : (l = 1 ∧ fo = (-1)) ∨ (l = 0 ∧ ∃ f' n : Nat, f' < 3 ∧ n ≤ 60 ∧ f = nI f' ∧ fo = nI f' ∧ z = nI n ∧ sz = nI n ∧ ∀ i, i < n → g i = items' (60 * s + i))) :
    ShOK (va_up si s g) (va_up sl s l) (va_up sf s f) (va_up ss s z) (upd forms s fo) (upd sizes s sz) items' := by
  intro t ht
  by_cases q : t = s
  · subst q
    rw [va_up_self, va_up_self, va_up_self, va_up_self, pk_us, pk_us]
    exact hn
  · rw [va_up_ne _ _ q, va_up_ne _ _ q, va_up_ne _ _ q, va_up_ne _ _ q, pk_un q, pk_un q]
    rcases h t ht with w | ⟨w, f', n, w1, w2, w3, w4, w5, w6, w7⟩
    · exact Or.inl w
    · refine Or.inr ⟨w, f', n, w1, w2, w3, w4, w5, w6, fun i hi => ?_⟩
      rw [w7 i hi, hit _ (by omega)]
theorem sh_lost {si : Nat → IA} {sl sf ss forms sizes items : IA} {s : Nat} (h : ShOK si sl sf ss forms sizes items) (hs : s < 4) : ShOK si (va_up sl s 1) sf ss (upd forms s (-1)) sizes items := by
  intro t ht
  by_cases q : t = s
  · subst q
    rw [va_up_self, pk_us]
    exact Or.inl ⟨rfl, rfl⟩
  · rw [va_up_ne _ _ q, pk_un q]
    exact h t ht
theorem sh_put2 {si : Nat → IA} {sl sf ss forms sizes items items' g : IA} {s : Nat} (h : ShOK si sl sf ss forms sizes items) (hs : s < 4) (hit : ∀ j, (j < 60 * s ∨ 60 * s + 60 ≤ j) → items' j = items j)
    (hn : ∀ n : Nat, n ≤ 60 → ss s = nI n → (∀ i, i < n → si s i = items (60 * s + i)) → ∀ i, i < n → g i = items' (60 * s + i)) :
    ShOK (va_up si s g) sl sf ss forms sizes items' := by
  intro t ht
  by_cases q : t = s
  · subst q
    rw [va_up_self]
    rcases h t ht with w | ⟨w, f', n, w1, w2, w3, w4, w5, w6, w7⟩
    · exact Or.inl w
    · exact Or.inr ⟨w, f', n, w1, w2, w3, w4, w5, w6, hn n w2 w5 w7⟩
  · rw [va_up_ne _ _ q]
    rcases h t ht with w | ⟨w, f', n, w1, w2, w3, w4, w5, w6, w7⟩
    · exact Or.inl w
    · refine Or.inr ⟨w, f', n, w1, w2, w3, w4, w5, w6, fun i hi => ?_⟩
      rw [w7 i hi, hit _ (by omega)]
theorem t_sheetL {latest : Int32} {s n : Nat} (hs : s < 4) (hn : n ≤ 60) {Q : Int32 → IA → IA → IA → Int32 → Prop} {fo sz items : IA} (hQ : ∀ items' : IA, (∀ i, i < n → items' (60 * s + i) = 0) → (∀ j, (j < 60 * s ∨ 60 * s + 60 ≤ j) → items' j = items j) → Q (nI n) fo sz items' latest) : ∃ k, wl_Md_sheet_55 latest (nI s) (nI n) Q fo sz k 0 items := by
  refine lp (fun k i (it : IA) => wl_Md_sheet_55 latest (nI s) (nI n) Q fo sz k (nI i) it) (fun i it => (∀ j, j < i → it (60 * s + j) = 0) ∧ ∀ j, (j < 60 * s ∨ 60 * s + 60 ≤ j) → it j = items j) n items ⟨fun j hj => by omega, fun _ _ => rfl⟩ (fun k it h => ?_) (fun k i it hi h ih => ?_)
  · rw [wl_Md_sheet_55]
    exact ⟨fun _ => hQ it h.1 h.2, fun q => absurd (nI_le (Nat.le_refl n) (by omega)) q⟩
  · rw [wl_Md_sheet_55]
    refine ⟨fun q => absurd q (nI_ge hi (by omega)), fun _ => ?_⟩
    rw [ix240, clN (by omega), nI_1]
    refine ⟨vp_in_nI (by omega) (by omega), fun f1 e1 => ?_⟩
    subst e1
    refine ih _ ⟨fun j hj => ?_, fun j hj => ?_⟩
    · by_cases q : j = i
      · subst q; exact pk_us
      · rw [pk_un (by omega)]; exact h.1 j (by omega)
    · rw [pk_un (by omega)]; exact h.2 j hj
def nar (f v : Int32) : Int32 := if f = 0 then jbyte v else if f = 1 then jshort v else v
theorem e_narrowed (f v : Int32) (Q : Int32 → Prop) : wp_Sh_narrowed f v Q ↔ Q (nar f v) := by
  unfold wp_Sh_narrowed nar
  by_cases h : f = 0
  · rw [if_pos h, brA h]
  · rw [if_neg h, brB h]
    by_cases h1 : f = 1
    · rw [if_pos h1, brA h1]
    · rw [if_neg h1, brB h1]
theorem e_cut (f v : Int32) (Q : Int32 → Prop) : wp_Md_cut f v Q ↔ Q (nar f v) := by
  unfold wp_Md_cut nar
  by_cases h : f = 0
  · rw [if_pos h, brA h]
  · rw [if_neg h, brB h]
    by_cases h1 : f = 1
    · rw [if_pos h1, brA h1]
    · rw [if_neg h1, brB h1]
theorem f_inS (a : Int32) {n : Nat} (hn : n ≤ 1000) (Q : Int32 → Prop) : wp_Md_in (Int32.toInt64 a) 0 (Int32.toInt64 (nI n - 1)) Q ↔ ((vp_in a n → Q 1) ∧ (¬ vp_in a n → Q 0)) := by
  refine e_in0 a _ n ?_ Q
  rw [t64, show (1 : Int32) = nI 1 from rfl, pk_sub_toInt (by omega) (by omega)]
  omega
theorem e_item {g : IA} {n i : Nat} (hn : n ≤ 60) (hi : i < n) (Q : Int32 → Prop) : wp_Sh_item g (nI n) (nI i) Q ↔ Q (g i) := by
  unfold wp_Sh_item
  rw [e_within _ n (by omega), brA (vp_in_nI hi (by omega)), br1, e_w60, brA (vp_in_nI (by omega) (by omega)), br1, clN (by omega)]
  exact ⟨fun h => h.2, fun h => ⟨vp_in_nI (by omega) (by omega), h⟩⟩
theorem e_setItem {g : IA} {f v : Int32} {n i : Nat} (hn : n ≤ 60) (hi : i < n) (Q : IA → Prop) : wp_Sh_setItem g f (nI n) (nI i) v Q ↔ Q (upd g i (nar f v)) := by
  unfold wp_Sh_setItem
  rw [e_within _ n (by omega), brA (vp_in_nI hi (by omega)), br1, e_w60, brA (vp_in_nI (by omega) (by omega)), br1, e_narrowed, clN (by omega)]
  exact ⟨fun h => h.2 _ rfl, fun h => ⟨vp_in_nI (by omega) (by omega), fun g' e => e ▸ h⟩⟩
theorem e_has (a b : Int32) {n : Nat} (hn : n ≤ 60) (Q : Int32 → Prop) : wp_Sh_hasItems (nI n) a b Q ↔ (((0 ≤ a.toInt ∧ 0 ≤ b.toInt ∧ a.toInt + b.toInt ≤ n) → Q 1) ∧ (¬ (0 ≤ a.toInt ∧ 0 ≤ b.toInt ∧ a.toInt + b.toInt ≤ n) → Q 0)) := by
  unfold wp_Sh_hasItems
  rw [i_lt, i_lt, i_lt, i_lt, n_t (by omega)]
  have h0 : (0 : Int32).toInt = 0 := rfl
  rw [h0]
  have key : 0 ≤ a.toInt → a.toInt ≤ n → (nI n - a).toInt = (n : Int) - a.toInt := by
    intro q1 q2
    rw [fb_subI (by rw [n_t (by omega)]; omega) (by rw [n_t (by omega)]; omega), n_t (by omega)]
  constructor
  · intro h
    refine ⟨fun q => ?_, fun q => ?_⟩
    · exact (((h.2 (by omega)).2 (by omega)).2 (by omega)).2 (by rw [key (by omega) (by omega)]; omega)
    · by_cases a1 : a.toInt < 0
      · exact h.1 a1
      · by_cases a2 : b.toInt < 0
        · exact (h.2 a1).1 a2
        · by_cases a3 : (n : Int) < a.toInt
          · exact ((h.2 a1).2 a2).1 a3
          · exact (((h.2 a1).2 a2).2 a3).1 (by rw [key (by omega) (by omega)]; omega)
  · intro h
    refine ⟨fun q => h.2 (by omega), fun q1 => ⟨fun q => h.2 (by omega), fun q2 => ⟨fun q => h.2 (by omega), fun q3 => ?_⟩⟩⟩
    rw [key (by omega) (by omega)]
    exact ⟨fun q => h.2 (by omega), fun q => h.1 (by omega)⟩
theorem add64 (a b : Int32) : (Int32.toInt64 a + Int32.toInt64 b).toInt = a.toInt + b.toInt := by
  have h1 := fb_rng a
  have h2 := fb_rng b
  rw [fb_addL (by rw [t64, t64]; omega) (by rw [t64, t64]; omega), t64, t64]
theorem t_copy1 {items moved : IA} {s i n : Nat} (hs : s < 4) (hi : i + n ≤ 60) {K : Int32 → IA → Prop} (hK : ∀ moved' : IA, (∀ q, q < n → moved' q = items (60 * s + i + q)) → K (nI n) moved') : ∃ k, wl_Md_copy_120 items (nI s) (nI i) (nI n) K k 0 moved := by
  refine lp (fun k q (mv : IA) => wl_Md_copy_120 items (nI s) (nI i) (nI n) K k (nI q) mv) (fun q mv => ∀ j, j < q → mv j = items (60 * s + i + j)) n moved (fun j hj => by omega) (fun k mv h => ?_) (fun k q mv hq h ih => ?_)
  · rw [wl_Md_copy_120]
    exact ⟨fun _ => hK mv h, fun w => absurd (nI_le (Nat.le_refl n) (by omega)) w⟩
  · rw [wl_Md_copy_120]
    refine ⟨fun w => absurd w (nI_ge hq (by omega)), fun _ => ?_⟩
    rw [ix240, nI_add, clN (by omega), clN (by omega), nI_1]
    refine ⟨vp_in_nI (by omega) (by omega), vp_in_nI (by omega) (by omega), fun f1 e1 => ?_⟩
    subst e1
    refine ih _ (fun j hj => ?_)
    by_cases w : j = q
    · subst w; exact pk_us
    · rw [pk_un w]; exact h j (by omega)
theorem t_copy2 {latest : Int32} {items moved : IA} {t j n : Nat} (ht : t < 4) (hj : j + n ≤ 60) {Q : Int32 → IA → IA → Int32 → Prop} (hQ : ∀ items' : IA, (∀ q, q < n → items' (60 * t + j + q) = moved q) → (∀ x, (x < 60 * t + j ∨ 60 * t + j + n ≤ x) → items' x = items x) → Q 1 items' moved latest) : ∃ k, wl_Md_copy_157 latest (nI t) (nI j) (nI n) Q moved k 0 items := by
  refine lp (fun k q (it : IA) => wl_Md_copy_157 latest (nI t) (nI j) (nI n) Q moved k (nI q) it) (fun q it => (∀ x, x < q → it (60 * t + j + x) = moved x) ∧ ∀ x, (x < 60 * t + j ∨ 60 * t + j + q ≤ x) → it x = items x) n items ⟨fun x hx => by omega, fun _ _ => rfl⟩ (fun k it h => ?_) (fun k q it hq h ih => ?_)
  · rw [wl_Md_copy_157]
    exact ⟨fun _ => hQ it h.1 h.2, fun w => absurd (nI_le (Nat.le_refl n) (by omega)) w⟩
  · rw [wl_Md_copy_157]
    refine ⟨fun w => absurd w (nI_ge hq (by omega)), fun _ => ?_⟩
    rw [ix240, nI_add, clN (by omega), clN (by omega), nI_1]
    refine ⟨vp_in_nI (by omega) (by omega), vp_in_nI (by omega) (by omega), fun f1 e1 => ?_⟩
    subst e1
    refine ih _ ⟨fun x hx => ?_, fun x hx => ?_⟩
    · by_cases w : x = q
      · subst w; exact pk_us
      · rw [pk_un (by omega)]; exact h.1 x (by omega)
    · rw [pk_un (by omega)]; exact h.2 x (by omega)
