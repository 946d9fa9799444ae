/-! Cells, nearness, blocks: what is answered; writing. -/
def cellF (d : Nat → Nat → Bool) (x y : Nat) : Int32 := if d x y then 1 else 0
theorem qs_cell {mk : Nat → IA} {m x y : Nat} (hm : m < 4) (hx : x < 16) (hy : y < 16) {Q : Int32 → Prop} (hQ : Q (cellF (dk (mk m)) x y)) : wp_Qm_cell mk (nI m) (nI x) (nI y) Q := by
  have h1 : vp_in (nI m) 4 := vp_in_nI hm (by omega)
  unfold wp_Qm_cell
  rw [e_isMask, brA h1, br1, e_isCell, brA ⟨in16 hx, in16 hy⟩, br1, clN (by omega)]
  refine ⟨h1, ?_⟩
  rw [e_isDarkZ, n_t (by omega), n_t (by omega), dz_nat]
  unfold cellF at hQ
  cases hb : dk (mk m) x y
  · rw [hb] at hQ
    exact ⟨fun _ => hQ, fun q => absurd rfl q⟩
  · rw [hb] at hQ
    exact ⟨fun q => absurd q (by decide), fun _ => hQ⟩
theorem qt_cell {rows : IA} {m x y : Nat} (hm : m < 4) (hx : x < 16) (hy : y < 16) {Q : Int32 → Prop} (hQ : Q (cellF (dk (mg rows m)) x y)) : wp_Md_dark rows (nI m) (nI x) (nI y) Q := by
  rw [e_darkN rows hm hx hy]
  exact hQ
theorem qs_near {mk : Nat → IA} {m x y : Nat} (hm : m < 4) (hg : g16 (mk m)) (hx : x < 16) (hy : y < 16) {Q : Int32 → Prop} (hQ : Q (nearF (dk (mk m)) x y)) : wp_Qm_near mk (nI m) (nI x) (nI y) Q := by
  have h1 : vp_in (nI m) 4 := vp_in_nI hm (by omega)
  unfold wp_Qm_near
  rw [e_isMask, brA h1, br1, e_isCell, brA ⟨in16 hx, in16 hy⟩, br1, clN (by omega)]
  exact ⟨h1, s_dist hg hx hy hQ⟩
theorem qs_blk {mk : Nat → IA} {m x y : Nat} {w : Int32} (hm : m < 4) (hx : x < 16) (hy : y < 16) (hw : vp_in w 3) {Q : Int32 → Prop} (hQ : Q (blockF (dk (mk m)) x y w)) : wp_Qm_block mk (nI m) (nI x) (nI y) w Q := by
  have h1 : vp_in (nI m) 4 := vp_in_nI hm (by omega)
  unfold wp_Qm_block
  rw [e_isMask, brA h1, br1, e_isCell, brA ⟨in16 hx, in16 hy⟩, br1, e_w3, brA hw, br1, clN (by omega)]
  exact ⟨h1, qs_block hx hy w hQ⟩
/-! writing -/
theorem sh_put3 {si si' : Nat → IA} {sl sf ss forms sizes items items' : IA} {s : Nat} (h : ShOK si sl sf ss forms sizes items) (hs : s < 4) (hsi : ∀ t, t ≠ s → si' t = si t) (hit : ∀ j, (j < 60 * s ∨ 60 * s + 60 ≤ j) → items' j = items j)
    (hn : ∀ n : Nat, n ≤ 60 → ss s = nI n → (∀ i, i < n → si s i = items (60 * s + i)) → ∀ i, i < n → si' s i = items' (60 * s + i)) :
    ShOK si' sl sf ss forms sizes items' := by
  intro t ht
  by_cases q : t = s
  · subst q
    rcases h t ht with w | ⟨w, f', n, w1, w2, w3, w4, w5, w6, w7⟩
    · exact Or.inl w
    · exact Or.inr ⟨w, f', n, w1, w2, w3, w4, w5, w6, hn n w2 w5 w7⟩
  · rw [hsi t q]
    rcases h t ht with w | ⟨w, f', n, w1, w2, w3, w4, w5, w6, w7⟩
    · exact Or.inl w
    · refine Or.inr ⟨w, f', n, w1, w2, w3, w4, w5, w6, fun i hi => ?_⟩
      rw [w7 i hi, hit _ (by omega)]
theorem jmin_n {a b : Nat} (ha : a < 2147483648) (hb : b < 2147483648) : jmin (nI a) (nI b) = nI (min a b) := by
  unfold jmin
  rcases Nat.lt_or_ge b a with h | h
  · rw [if_pos (nI_lt h ha), show min a b = b by omega]
  · rw [if_neg (nI_nlt h hb), show min a b = a by omega]
theorem w_many {n T i : Nat} (hn : n ≤ 60) (hT : T ≤ 341) (hi : i < 341) : jmax 0 (jmin (nI n) (nI T - nI i)) = nI (min n (T - i)) := by
  rcases Nat.lt_or_ge T i with h | h
  · have h1 : nI T - nI i < 0 := pk_sneg (by omega) h
    have h2 : (nI T - nI i).toInt < 0 := by rw [i_lt] at h1; exact h1
    have e1 : jmin (nI n) (nI T - nI i) = nI T - nI i := by
      unfold jmin
      rw [if_pos (by rw [i_lt, n_t (by omega)]; omega)]
    rw [e1]
    unfold jmax
    rw [if_neg (by rw [i_lt, i0z]; omega), show min n (T - i) = 0 by omega]
    rfl
  · rw [pk_sub h, jmin_n (by omega) (by omega), show (0 : Int32) = nI 0 from rfl, jmax_n (by omega) (by omega), show max 0 (min n (T - i)) = min n (T - i) by omega]
theorem t_many {n T i : Nat} (hn : n ≤ 60) (hT : T ≤ 341) (hi : i < 341) {Q : Int32 → Prop} (hQ : Q (nI (min n (T - i)))) : wp_Md_greater (nI T - nI i) 0 (fun r_4 => wp_Md_lesser (nI n) r_4 (fun r_5 => Q r_5)) := by
  rcases Nat.lt_or_ge T i with h | h
  · have h1 : nI T - nI i < 0 := pk_sneg (by omega) h
    have h2 : (nI T - nI i).toInt < 0 := by rw [i_lt] at h1; exact h1
    unfold wp_Md_greater
    refine ⟨fun _ => ?_, fun q => absurd (by rw [i_le, i0z]; omega) q⟩
    refine t_lesser (a := n) (b := 0) (by omega) (by omega) ?_
    rw [show min n (T - i) = min n 0 by omega] at hQ
    exact hQ
  · rw [pk_sub h]
    refine t_greater (a := T - i) (b := 0) (by omega) (by omega) ?_
    rw [show max (T - i) 0 = T - i by omega]
    exact t_lesser (by omega) (by omega) hQ
theorem s_writeL {lf : Int32} {sf ss sS sL : IA} {sT sD sM sX : Int32} {si : Nat → IA} {l : List Nat} {s i n N : Nat} {f : Int32} (hs : s < 4) (ef : sf s = f) (es : ss s = nI n) (hn : n ≤ 60) (hN : N ≤ n) (hl : l.length ≤ 341) (hil : i + N ≤ l.length) (hL : nums sL l) (hT : sT = nI l.length) {Q : Int32 → Int32 → IA → IA → Int32 → Int32 → Int32 → Int32 → (Nat → IA) → Prop}
    (hQ : ∀ si' : Nat → IA, (∀ t, t ≠ s → si' t = si t) → (∀ k, k < N → si' s k = nar f (nI (l.getD (i + k) 0))) → (∀ k, N ≤ k → si' s k = si s k) → Q (nI N) lf sS sL sT sD sM sX si') : ∃ k, wl_Qm_write_88 lf sf ss (nI i) (nI s) Q sS sL sT sD sM sX (nI N) k 0 si := by
  subst hT
  refine lp (fun k q (z : Nat → IA) => wl_Qm_write_88 lf sf ss (nI i) (nI s) Q sS sL (nI l.length) sD sM sX (nI N) k (nI q) z) (fun q z => (∀ t, t ≠ s → z t = si t) ∧ (∀ k, k < q → z s k = nar f (nI (l.getD (i + k) 0))) ∧ (∀ k, q ≤ k → z s k = si s k)) N si ⟨fun _ _ => rfl, fun k hk => by omega, fun _ _ => rfl⟩ (fun k z h => ?_) (fun k q z hq h ih => ?_)
  · rw [wl_Qm_write_88]
    exact ⟨fun _ => hQ z h.1 h.2.1 h.2.2, fun w => absurd (nI_le (Nat.le_refl N) (by omega)) w⟩
  · rw [wl_Qm_write_88]
    refine ⟨fun w => absurd w (nI_ge hq (by omega)), fun _ => ⟨vp_in_nI hs (by omega), ?_⟩⟩
    rw [nI_add, clN (by omega), nI_1, ef, es]
    refine s_siSign hl hL (by omega) (fun _ => ?_) (fun w => absurd (show i + q < l.length by omega) w)
    rw [e_setItem hn (by omega)]
    refine ih _ ⟨fun t ht => ?_, fun k hk => ?_, fun k hk => ?_⟩
    · rw [va_up_ne _ _ ht]; exact h.1 t ht
    · rw [va_up_self]
      by_cases w : k = q
      · subst w; exact pk_us
      · rw [pk_un w]; exact h.2.1 k (by omega)
    · rw [va_up_self, pk_un (by omega)]; exact h.2.2 k (by omega)
theorem t_writeL {forms items aX aY aS sg mn : IA} {latest ww sn : Int32} {l : List Nat} {s i N : Nat} {f : Int32} (hs : s < 4) (ef : forms s = f) (hN : N ≤ 60) (hl : l.length ≤ 341) (hil : i + N ≤ l.length) (hL : nums sg l) {Q : Int32 → IA → Int32 → IA → IA → IA → Int32 → IA → Int32 → IA → Prop}
    (hQ : ∀ items' : IA, (∀ k, k < N → items' (60 * s + k) = nar f (nI (l.getD (i + k) 0))) → (∀ j, (j < 60 * s ∨ 60 * s + N ≤ j) → items' j = items j) → Q (nI N) items' latest aX aY aS ww sg sn mn) : ∃ k, wl_Md_write_73 forms latest (nI i) (nI s) Q aX aY aS ww sg sn mn (nI N) k 0 items := by
  refine lp (fun k q (z : IA) => wl_Md_write_73 forms latest (nI i) (nI s) Q aX aY aS ww sg sn mn (nI N) k (nI q) z) (fun q z => (∀ k, k < q → z (60 * s + k) = nar f (nI (l.getD (i + k) 0))) ∧ (∀ j, (j < 60 * s ∨ 60 * s + q ≤ j) → z j = items j)) N items ⟨fun k hk => by omega, fun _ _ => rfl⟩ (fun k z h => ?_) (fun k q z hq h ih => ?_)
  · rw [wl_Md_write_73]
    exact ⟨fun _ => hQ z h.1 h.2, fun w => absurd (nI_le (Nat.le_refl N) (by omega)) w⟩
  · rw [wl_Md_write_73]
    refine ⟨fun w => absurd w (nI_ge hq (by omega)), fun _ => ⟨vp_in_nI hs (by omega), ?_⟩⟩
    rw [nI_add, clN (by omega), clN (by omega), nI_1, ef, e_cut, ix240, clN (by omega), hL (i + q) (by omega)]
    refine ⟨vp_in_nI (by omega) (by omega), vp_in_nI (by omega) (by omega), fun f1 e1 => ?_⟩
    subst e1
    refine ih _ ⟨fun k hk => ?_, fun j hj => ?_⟩
    · by_cases w : k = q
      · subst w; exact pk_us
      · rw [pk_un (by omega)]; exact h.1 k (by omega)
    · rw [pk_un (by omega)]; exact h.2 j (by omega)
