/-! The last change undone. -/
theorem s_undo {chM chR o : IA} {n k v : Nat} (hn : n ≤ 40) (hk : 0 < k) (hk2 : k ≤ 40) (hv : v = (n + 39) % 40) (hr : ∀ y, y < 16 → r16 (chR (16 * v + y))) {Q : Int32 → Int32 → Int32 → IA → Prop}
    (hQ : ∀ o' : IA, (∀ y, y < 16 → o' y = chR (16 * v + y)) → Q (chM v) (nI v) (nI (k - 1)) o') : wp_Ch_undo chM chR (nI n) (nI k) o Q := by
  unfold wp_Ch_undo
  refine ⟨fun e => absurd e (nI_ne0 hk (by omega)), fun _ => s_fm1 hn ?_⟩
  rw [← hv]
  intro vk evk
  have e2 : vk = nI (k - 1) := by
    rw [evk, show (1 : Int32) = nI 1 from rfl, pk_sub (by omega)]
  have hv4 : v < 40 := by omega
  subst e2
  refine lp (fun t i (s : IA) => wl_Ch_undo_36 chM chR Q (nI v) (nI (k - 1)) t (nI i) s) (fun i s => ∀ y, y < i → s y = chR (16 * v + y)) 16 o (fun y hy => by omega) (fun t s h => ?_) (fun t i s hi h ih => ?_)
  · rw [wl_Ch_undo_36]
    refine ⟨fun _ => ⟨vp_in_nI hv4 (by omega), ?_⟩, fun q => absurd le16 q⟩
    rw [clN (by omega)]
    exact hQ s h
  · rw [wl_Ch_undo_36]
    refine ⟨fun q => absurd q (ge16 hi), fun _ => ?_⟩
    have e : nI v * 16 + nI i = nI (16 * v + i) := by
      rw [show (16 : Int32) = nI 16 from rfl, pk_mul, nI_add, Nat.mul_comm]
    rw [e, e_setRow, clN (by omega), clN (by omega), nI_1]
    refine ⟨vp_in_nI (by omega) (by omega), fun _ => ?_, fun q => absurd (in16 hi) q⟩
    refine ih _ (fun y hy => ?_)
    by_cases q : y = i
    · subst q; rw [pk_us, m16 (hr y hi)]
    · rw [pk_un q]; exact h y (by omega)
theorem t_back {rows om or0 : IA} {k m : Nat} (hk : 0 < k) (hk2 : k ≤ 40) (hm : m < 4) (ho : om (k - 1) = nI m) {Q : Int32 → IA → Int32 → Prop}
    (hQ : ∀ rows' : IA, (∀ y, y < 16 → rows' (16 * m + y) = or0 (16 * (k - 1) + y)) → (∀ j, (j < 16 * m ∨ 16 * m + 16 ≤ j) → rows' j = rows j) → Q (nI (k - 1)) rows' (nI (k - 1))) : wp_Md_back rows om or0 (nI k) Q := by
  unfold wp_Md_back
  refine ⟨fun e => absurd e (nI_ne0 hk (by omega)), fun _ vk evk => ?_⟩
  have e2 : vk = nI (k - 1) := by
    rw [evk, show (1 : Int32) = nI 1 from rfl, pk_sub (by omega)]
  subst e2
  refine lp (fun t i (s : IA) => wl_Md_back_22 om or0 Q (nI (k - 1)) t (nI i) s) (fun i s => (∀ y, y < i → s (16 * m + y) = or0 (16 * (k - 1) + y)) ∧ ∀ j, (j < 16 * m ∨ 16 * m + i ≤ j) → s j = rows j) 16 rows ⟨fun y hy => by omega, fun _ _ => rfl⟩ (fun t s h => ?_) (fun t i s hi h ih => ?_)
  · rw [wl_Md_back_22]
    exact ⟨fun _ => hQ s h.1 h.2, fun q => absurd le16 q⟩
  · rw [wl_Md_back_22]
    refine ⟨fun q => absurd q (ge16 hi), fun _ => ?_⟩
    have e : (16 : Int32) * nI (k - 1) + nI i = nI (16 * (k - 1) + i) := by
      rw [show (16 : Int32) = nI 16 from rfl, pk_mul, nI_add]
    rw [clN (by omega), ho, ix64 hm hi, e, clN (by omega), clN (by omega), nI_1]
    refine ⟨vp_in_nI (by omega) (by omega), vp_in_nI (by omega) (by omega), vp_in_nI (by omega) (by omega), fun f1 e1 => ?_⟩
    subst e1
    refine ih _ ⟨fun y hy => ?_, fun j hj => ?_⟩
    · by_cases q : y = i
      · subst q; exact pk_us
      · rw [pk_un (by omega)]; exact h.1 y (by omega)
    · rw [pk_un (by omega)]; exact h.2 j (by omega)
theorem both_back {chM chR om or0 rows md : IA} {mk : Nat → IA} {chN chK known : Int32} (hmk : MaskOK mk rows) (hh : HistOK chM chR chN chK om or0 known) :
    wp_Qm_back chM chR chN chK md mk (fun r chN' chK' md' mk' => wp_Md_back rows om or0 known (fun r2 rows' k' => r = r2 ∧ MaskOK mk' rows' ∧ HistOK chM chR chN' chK' om or0 k')) := by
  obtain ⟨k, n, hk, hn, rfl, rfl, rfl, hh⟩ := hh
  unfold wp_Qm_back
  rcases Nat.eq_zero_or_pos k with q | q
  · subst q
    refine ⟨fun _ => ?_, fun w => absurd rfl w⟩
    unfold wp_Md_back
    exact ⟨fun _ => ⟨rfl, hmk, ⟨0, n, by omega, hn, rfl, rfl, rfl, hh⟩⟩, fun w => absurd rfl w⟩
  · refine ⟨fun e => absurd e (nI_ne0 q (by omega)), fun _ => ?_⟩
    have ev : (n + 40 - k + (k - 1)) % 40 = (n + 39) % 40 := by omega
    obtain ⟨⟨m, hm, h1, h2⟩, h3⟩ := hh (k - 1) (by omega)
    rw [ev] at h2 h3
    refine s_undo (v := (n + 39) % 40) hn q hk rfl (fun y hy => by rw [(h3 y hy).2]; exact (h3 y hy).1) (fun o' ho' => ?_)
    rw [h2, e_isMask]
    refine ⟨fun hm4 => ?_, fun w => absurd (vp_in_nI hm (by omega)) w⟩
    rw [br1, clN (by omega)]
    refine ⟨hm4, s_take (fun f' hf' => ?_)⟩
    refine t_back q hk hm h1 (fun rows' a1 a2 => ⟨rfl, fun m2 hm2 => ?_, ⟨k - 1, (n + 39) % 40, by omega, by omega, rfl, rfl, rfl, fun j hj => ?_⟩⟩)
    · by_cases w : m2 = m
      · subst w
        rw [va_up_self]
        refine ⟨fun y hy => ?_, fun y hy => ?_⟩
        · rw [hf' y hy, ho' y hy, (h3 y hy).2]; exact (h3 y hy).1
        · rw [hf' y hy, ho' y hy, (h3 y hy).2, a1 y hy]
      · rw [va_up_ne _ _ w]
        refine ⟨(hmk m2 hm2).1, fun y hy => ?_⟩
        rw [(hmk m2 hm2).2 y hy, a2 _ (by omega)]
    · have e : ((n + 39) % 40 + 40 - (k - 1) + j) % 40 = (n + 40 - k + j) % 40 := by omega
      rw [e]
      exact hh j (by omega)
