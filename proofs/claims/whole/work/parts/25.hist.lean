/-! What a mask becomes: the rows, and the changes that are known. -/
def MaskOK (mk : Nat → IA) (rows : IA) : Prop := ∀ m, m < 4 → g16 (mk m) ∧ ∀ y, y < 16 → mk m y = rows (16 * m + y)
def HistOK (chM chR : IA) (chN chK : Int32) (oldMask oldRows : IA) (known : Int32) : Prop :=
  ∃ k n : Nat, k ≤ 40 ∧ n ≤ 40 ∧ chK = nI k ∧ known = nI k ∧ chN = nI n ∧ ∀ j, j < k → (∃ mm, mm < 4 ∧ oldMask j = nI mm ∧ chM ((n + 40 - k + j) % 40) = nI mm) ∧ ∀ y, y < 16 → r16 (oldRows (16 * j + y)) ∧ chR (16 * ((n + 40 - k + j) % 40) + y) = oldRows (16 * j + y)
/-- the place in the ring: what floorMod answers there -/
def fmJ (a : Int32) : Int32 := if 0 ≤ (a ^^^ 40) then jrem a 40 else if jrem a 40 = 0 then jrem a 40 else jrem a 40 + 40
theorem e_floorMod (a : Int32) (Q : Int32 → Prop) (h : Q (fmJ a)) : wp_Ma_floorMod a 40 Q := by
  unfold wp_Ma_floorMod
  unfold fmJ at h
  refine ⟨by decide, fun x ex => ⟨fun c => ?_, fun c => ⟨fun d => ?_, fun d => ?_⟩⟩⟩
  · rw [if_pos c] at h
    rw [ex]; exact h
  · rw [if_neg c] at h
    subst ex
    rw [if_pos d] at h; exact h
  · rw [if_neg c] at h
    subst ex
    rw [if_neg d] at h; exact h
theorem fm_a : ∀ n : Fin 41, fmJ (nI n.val) = nI (n.val % 40) := by decide +kernel
theorem fm_b : ∀ n : Fin 41, fmJ (nI n.val - 1) = nI ((n.val + 39) % 40) := by decide +kernel
theorem s_fm {n : Nat} (hn : n ≤ 40) {Q : Int32 → Prop} (h : Q (nI (n % 40))) : wp_Ma_floorMod (nI n) 40 Q :=
  e_floorMod _ _ (by rw [show fmJ (nI n) = nI (n % 40) from fm_a ⟨n, by omega⟩]; exact h)
theorem s_fm1 {n : Nat} (hn : n ≤ 40) {Q : Int32 → Prop} (h : Q (nI ((n + 39) % 40))) : wp_Ma_floorMod (nI n - 1) 40 Q :=
  e_floorMod _ _ (by rw [show fmJ (nI n - 1) = nI ((n + 39) % 40) from fm_b ⟨n, by omega⟩]; exact h)
theorem s_keep {chM chR o : IA} {n k : Nat} (hn : n ≤ 40) (hk : k ≤ 40) {a : Int32} {Q : IA → IA → Int32 → Int32 → Prop}
    (hQ : ∀ chM' chR' : IA, chM' = upd chM (n % 40) a → (∀ y, y < 16 → chR' (16 * (n % 40) + y) = o y) → (∀ j, (j < 16 * (n % 40) ∨ 16 * (n % 40) + 16 ≤ j) → chR' j = chR j) → Q chM' chR' (nI (n % 40 + 1)) (nI (min (k + 1) 40))) :
    wp_Ch_keep chM chR (nI n) (nI k) o a Q := by
  unfold wp_Ch_keep
  refine s_fm hn ?_
  have hv : n % 40 < 40 := Nat.mod_lt _ (by omega)
  generalize n % 40 = v at hv hQ ⊢
  refine ⟨vp_in_nI hv (by omega), fun cm ecm => ?_⟩
  rw [clN (by omega)] at ecm
  refine lp (fun t i (s : IA) => wl_Ch_keep_20 o (nI v) (wx_Ch_keep_51 (nI k) Q (nI v) cm) t (nI i) s) (fun i s => (∀ y, y < i → s (16 * v + y) = o y) ∧ ∀ j, (j < 16 * v ∨ 16 * v + i ≤ j) → s j = chR j) 16 chR ⟨fun y hy => by omega, fun _ _ => rfl⟩ (fun t s h => ?_) (fun t i s hi h ih => ?_)
  · rw [wl_Ch_keep_20]
    refine ⟨fun _ => ?_, fun q => absurd le16 q⟩
    unfold wx_Ch_keep_51
    intro vn evn vk evk
    have e1 : vn = nI (v + 1) := by
      rw [evn, nI_1]
    have e2 : vk = nI (min (k + 1) 40) := by
      rw [evk, nI_1]
      unfold jmin
      show (if nI 40 < nI (k + 1) then nI 40 else nI (k + 1)) = _
      by_cases q : 40 < k + 1
      · rw [if_pos (nI_lt q (by omega)), Nat.min_eq_right (by omega)]
      · rw [if_neg (nI_nlt (by omega) (by omega)), Nat.min_eq_left (by omega)]
    rw [e1, e2]
    exact hQ cm s ecm h.1 h.2
  · rw [wl_Ch_keep_20]
    refine ⟨fun q => absurd q (ge16 hi), fun _ => ?_⟩
    rw [e_row]
    refine ⟨fun _ => ?_, fun q => absurd (in16 hi) q⟩
    have e : nI v * 16 + nI i = nI (16 * v + i) := by
      rw [show (16 : Int32) = nI 16 from rfl, pk_mul, nI_add, Nat.mul_comm]
    rw [e, clN (by omega), clN (by omega), nI_1]
    refine ⟨vp_in_nI (by omega) (by omega), fun f1 e1 => ?_⟩
    subst e1
    refine ih _ ⟨fun y hy => ?_, fun j hj => ?_⟩
    · by_cases q : y = i
      · subst q; exact pk_us
      · rw [pk_un (by omega)]; exact h.1 y (by omega)
    · rw [pk_un (by omega)]; exact h.2 j (by omega)
theorem ge_n {i n : Nat} (h : i < n) (hn : n < 2147483648) : ¬ nI n ≤ nI i := nI_ge h hn
theorem t_becomes3 {rows fresh om or0 : IA} {k m : Nat} (hk : k < 40) (hm : m < 4) {Q : IA → IA → IA → Int32 → Prop}
    (hQ : ∀ rows' om' or' : IA, (∀ y, y < 16 → rows' (16 * m + y) = fresh y) → (∀ j, (j < 16 * m ∨ 16 * m + 16 ≤ j) → rows' j = rows j) → om' = upd om k (nI m) → (∀ y, y < 16 → or' (16 * k + y) = rows (16 * m + y)) → (∀ j, (j < 16 * k ∨ 16 * k + 16 ≤ j) → or' j = or0 j) → Q rows' om' or' (nI (k + 1))) :
    wj_Md_becomes_78 rows fresh (nI m) Q om or0 (nI k) := by
  unfold wj_Md_becomes_78
  refine ⟨vp_in_nI hk (by omega), fun om1 eom => ?_⟩
  rw [clN (by omega)] at eom
  refine lp (fun t i (s : IA × IA) => wl_Md_becomes_90 fresh (nI m) (nI k) (wx_Md_becomes_144 Q (nI k) om1) t (nI i) s.1 s.2) (fun i s => (∀ y, y < i → s.1 (16 * m + y) = fresh y) ∧ (∀ j, (j < 16 * m ∨ 16 * m + i ≤ j) → s.1 j = rows j) ∧ (∀ y, y < i → s.2 (16 * k + y) = rows (16 * m + y)) ∧ ∀ j, (j < 16 * k ∨ 16 * k + i ≤ j) → s.2 j = or0 j) 16 (rows, or0) ⟨fun y hy => by omega, fun _ _ => rfl, fun y hy => by omega, fun _ _ => rfl⟩ (fun t s h => ?_) (fun t i s hi h ih => ?_)
  · rw [wl_Md_becomes_90]
    refine ⟨fun _ => ?_, fun q => absurd le16 q⟩
    unfold wx_Md_becomes_144
    intro vk evk
    rw [evk, nI_1]
    exact hQ _ _ _ h.1 h.2.1 eom h.2.2.1 h.2.2.2
  · rw [wl_Md_becomes_90]
    refine ⟨fun q => absurd q (ge16 hi), fun _ => ?_⟩
    have e1 := ix64 hm hi
    have e2 : (16 : Int32) * nI k + nI i = nI (16 * k + i) := by
      rw [show (16 : Int32) = nI 16 from rfl, pk_mul, nI_add]
    rw [e1, e2, clN (by omega), clN (by omega), clN (by omega), nI_1]
    refine ⟨vp_in_nI (by omega) (by omega), vp_in_nI (by omega) (by omega), fun o1 eo => ⟨in16 hi, vp_in_nI (by omega) (by omega), fun r1 er => ?_⟩⟩
    subst eo; subst er
    refine ih (_, _) ⟨fun y hy => ?_, fun j hj => ?_, fun y hy => ?_, fun j hj => ?_⟩
    · show upd s.1 (16 * m + i) (fresh i) (16 * m + y) = fresh y
      by_cases q : y = i
      · subst q; exact pk_us
      · rw [pk_un (by omega)]; exact h.1 y (by omega)
    · show upd s.1 (16 * m + i) (fresh i) j = rows j
      rw [pk_un (by omega)]; exact h.2.1 j (by omega)
    · show upd s.2 (16 * k + i) (s.1 (16 * m + i)) (16 * k + y) = rows (16 * m + y)
      by_cases q : y = i
      · subst q; rw [pk_us]; exact h.2.1 _ (by omega)
      · rw [pk_un (by omega)]; exact h.2.2.1 y (by omega)
    · show upd s.2 (16 * k + i) (s.1 (16 * m + i)) j = or0 j
      rw [pk_un (by omega)]; exact h.2.2.2 j (by omega)
theorem t_becomes {rows fresh om or0 : IA} {k m : Nat} (hk : k ≤ 40) (hm : m < 4) {Q : IA → IA → IA → Int32 → Prop}
    (hQ : ∀ (kk sh : Nat) (rows' om' or' : IA), kk < 40 → kk + sh = k → (sh = 0 ∨ sh = 1) → (k < 40 → sh = 0) → (∀ y, y < 16 → rows' (16 * m + y) = fresh y) → (∀ j, (j < 16 * m ∨ 16 * m + 16 ≤ j) → rows' j = rows j) → (∀ j, j < kk → om' j = om (j + sh)) → om' kk = nI m → (∀ j, j < kk → ∀ y, y < 16 → or' (16 * j + y) = or0 (16 * (j + sh) + y)) → (∀ y, y < 16 → or' (16 * kk + y) = rows (16 * m + y)) → Q rows' om' or' (nI (kk + 1))) :
    wp_Md_becomes rows fresh om or0 (nI k) (nI m) Q := by
  unfold wp_Md_becomes jn
  refine ⟨fun e => ?_, fun e => ?_⟩
  · have e40 : k = 40 := (nI_eq (by omega) (by omega)).mp (show nI k = nI 40 from e)
    subst e40
    refine pk_loop (fun t i (s : IA) => wl_Md_becomes_11 (wx_Md_becomes_37 or0 (nI 40) (wj_Md_becomes_78 rows fresh (nI m) Q)) t (nI i) s) (fun i s => (∀ j, j + 1 < i → s j = om (j + 1)) ∧ 1 ≤ i ∧ ∀ j, i ≤ j + 1 → s j = om j) 40 1 om (by omega) ⟨fun j hj => by omega, Nat.le_refl 1, fun _ _ => rfl⟩ (fun t s h => ?_) (fun t i s hi h ih => ?_)
    · rw [wl_Md_becomes_11]
      refine ⟨fun _ => ?_, fun q => absurd (by decide : (40 : Int32) ≤ nI 40) q⟩
      unfold wx_Md_becomes_37
      refine pk_loop (fun t i (s2 : IA) => wl_Md_becomes_40 (wx_Md_becomes_68 (nI 40) (wj_Md_becomes_78 rows fresh (nI m) Q) s) t (nI i) s2) (fun i s2 => (∀ j, j + 16 < i → s2 j = or0 (j + 16)) ∧ 16 ≤ i ∧ ∀ j, i ≤ j + 16 → s2 j = or0 j) 640 16 or0 (by omega) ⟨fun j hj => by omega, Nat.le_refl 16, fun _ _ => rfl⟩ (fun t s2 h2 => ?_) (fun t i s2 hi h2 ih => ?_)
      · rw [wl_Md_becomes_40]
        refine ⟨fun _ => ?_, fun q => absurd (by decide : (640 : Int32) ≤ nI 640) q⟩
        unfold wx_Md_becomes_68
        intro vk evk
        have e39 : vk = nI 39 := by rw [evk]; decide
        subst e39
        refine t_becomes3 (k := 39) (by omega) hm (fun r1 o1 w1 a1 a2 a3 a4 a5 => ?_)
        refine hQ 39 1 r1 o1 w1 (by omega) (by omega) (Or.inr rfl) (fun q => by omega) a1 a2 (fun j hj => ?_) ?_ (fun j hj y hy => ?_) a4
        · rw [a3, pk_un (by omega)]; exact h.1 j (by omega)
        · rw [a3]; exact pk_us
        · rw [a5 _ (by omega), h2.1 _ (by omega)]; congr 1; omega
      · rw [wl_Md_becomes_40]
        refine ⟨fun q => absurd q (show ¬ nI 640 ≤ nI i from ge_n hi (by omega)), fun _ => ?_⟩
        have hlo : 16 ≤ i := h2.2.1
        have e16 : nI i - 16 = nI (i - 16) := pk_sub (b := 16) hlo
        rw [e16, clN (by omega), clN (by omega), nI_1]
        refine ⟨vp_in_nI hi (by omega), vp_in_nI (by omega) (by omega), fun o1 eo => ?_⟩
        subst eo
        refine ih _ ⟨fun j hj => ?_, by omega, fun j hj => ?_⟩
        · by_cases q : j = i - 16
          · subst q; rw [pk_us, h2.2.2 _ (by omega)]; congr 1; omega
          · rw [pk_un q]; exact h2.1 j (by omega)
        · rw [pk_un (by omega)]; exact h2.2.2 j (by omega)
    · rw [wl_Md_becomes_11]
      refine ⟨fun q => absurd q (show ¬ nI 40 ≤ nI i from ge_n hi (by omega)), fun _ => ?_⟩
      have hlo : 1 ≤ i := h.2.1
      have e1 : nI i - 1 = nI (i - 1) := pk_sub (b := 1) hlo
      rw [e1, clN (by omega), clN (by omega), nI_1]
      refine ⟨vp_in_nI hi (by omega), vp_in_nI (by omega) (by omega), fun o1 eo => ?_⟩
      subst eo
      refine ih _ ⟨fun j hj => ?_, by omega, fun j hj => ?_⟩
      · by_cases q : j = i - 1
        · subst q; rw [pk_us, h.2.2 _ (by omega)]; congr 1; omega
        · rw [pk_un q]; exact h.1 j (by omega)
      · rw [pk_un (by omega)]; exact h.2.2 j (by omega)
  · have hk2 : k < 40 := by
      rcases Nat.lt_or_ge k 40 with q | q
      · exact q
      · exact absurd (show nI k = nI 40 by rw [show k = 40 by omega]) e
    refine t_becomes3 hk2 hm (fun r1 o1 w1 a1 a2 a3 a4 a5 => ?_)
    refine hQ k 0 r1 o1 w1 hk2 (by omega) (Or.inl rfl) (fun _ => rfl) a1 a2 (fun j hj => ?_) ?_ (fun j hj y hy => ?_) a4
    · rw [a3, pk_un (by omega)]; rfl
    · rw [a3]; exact pk_us
    · rw [a5 _ (by omega)]; rfl
theorem t_become {rows fresh om or0 : IA} {k m : Nat} (hk : k ≤ 40) (hm : m < 4) {Q : Int32 → IA → IA → IA → Int32 → Prop}
    (hQ : ∀ (kk sh : Nat) (rows' om' or' : IA), kk < 40 → kk + sh = k → (sh = 0 ∨ sh = 1) → (k < 40 → sh = 0) → (∀ y, y < 16 → rows' (16 * m + y) = fresh y) → (∀ j, (j < 16 * m ∨ 16 * m + 16 ≤ j) → rows' j = rows j) → (∀ j, j < kk → om' j = om (j + sh)) → om' kk = nI m → (∀ j, j < kk → ∀ y, y < 16 → or' (16 * j + y) = or0 (16 * (j + sh) + y)) → (∀ y, y < 16 → or' (16 * kk + y) = rows (16 * m + y)) → Q (nI (ctg (dk (mg rows' m)))) rows' om' or' (nI (kk + 1))) :
    wp_Md_become rows fresh om or0 (nI k) (nI m) Q := by
  unfold wp_Md_become
  refine t_becomes hk hm (fun kk sh r1 o1 w1 b1 b2 b3 b4 a1 a2 a3 a4 a5 a6 => ?_)
  exact t_darkOf r1 hm (hQ kk sh r1 o1 w1 b1 b2 b3 b4 a1 a2 a3 a4 a5 a6)
/-- the changes that are known, behind one more -/
theorem hist_push {chM chR om or0 chM' chR' om' or' rows : IA} {mk : Nat → IA} {m k n kk sh : Nat} (hm : m < 4) (hmk : MaskOK mk rows) (hk : k ≤ 40) (hn : n ≤ 40)
    (hh : ∀ j, j < k → (∃ mm, mm < 4 ∧ om j = nI mm ∧ chM ((n + 40 - k + j) % 40) = nI mm) ∧ ∀ y, y < 16 → r16 (or0 (16 * j + y)) ∧ chR (16 * ((n + 40 - k + j) % 40) + y) = or0 (16 * j + y))
    (c1 : chM' = upd chM (n % 40) (nI m)) (c2 : ∀ y, y < 16 → chR' (16 * (n % 40) + y) = mk m y) (c3 : ∀ j, (j < 16 * (n % 40) ∨ 16 * (n % 40) + 16 ≤ j) → chR' j = chR j)
    (b1 : kk < 40) (b2 : kk + sh = k) (b3 : sh = 0 ∨ sh = 1) (b4 : k < 40 → sh = 0) (a3 : ∀ j, j < kk → om' j = om (j + sh)) (a4 : om' kk = nI m) (a5 : ∀ j, j < kk → ∀ y, y < 16 → or' (16 * j + y) = or0 (16 * (j + sh) + y)) (a6 : ∀ y, y < 16 → or' (16 * kk + y) = rows (16 * m + y)) :
    HistOK chM' chR' (nI (n % 40 + 1)) (nI (min (k + 1) 40)) om' or' (nI (kk + 1)) := by
  have hkk : min (k + 1) 40 = kk + 1 := by
    rcases b3 with q | q
    · omega
    · have : ¬ k < 40 := fun w => by have := b4 w; omega
      omega
  refine ⟨kk + 1, n % 40 + 1, by omega, by omega, by rw [hkk], rfl, rfl, fun j hj => ?_⟩
  by_cases q : j = kk
  · subst q
    have e : (n % 40 + 1 + 40 - (j + 1) + j) % 40 = n % 40 := by omega
    rw [e]
    refine ⟨⟨m, hm, a4, by rw [c1]; exact pk_us⟩, fun y hy => ?_⟩
    rw [a6 y hy, c2 y hy, ← (hmk m hm).2 y hy]
    exact ⟨(hmk m hm).1 y hy, rfl⟩
  · have hj2 : j < kk := by omega
    have e : (n % 40 + 1 + 40 - (kk + 1) + j) % 40 = (n + 40 - k + (j + sh)) % 40 := by omega
    have ne : (n + 40 - k + (j + sh)) % 40 ≠ n % 40 := by omega
    rw [e]
    obtain ⟨⟨mm, h1, h2, h3⟩, h4⟩ := hh (j + sh) (by omega)
    refine ⟨⟨mm, h1, by rw [a3 j hj2, h2], by rw [c1, pk_un ne, h3]⟩, fun y hy => ?_⟩
    rw [a5 j hj2 y hy, c3 _ (by omega)]
    exact h4 y hy
/-- both become the like -/
theorem bec {chM chR om or0 rows fresh md : IA} {mk : Nat → IA} {chN chK known : Int32} {m : Nat} (hm : m < 4) (hmk : MaskOK mk rows) (hh : HistOK chM chR chN chK om or0 known) (hmd : g16 md) (he : ∀ y, y < 16 → md y = fresh y) :
    wp_Qm_become chM chR chN chK md mk (nI m) (fun r a b c d e => wp_Md_become rows fresh om or0 known (nI m) (fun r2 rows' om' or' k' => r = r2 ∧ MaskOK e rows' ∧ HistOK a b c d om' or' k')) := by
  obtain ⟨k, n, hk, hn, rfl, rfl, rfl, hh⟩ := hh
  unfold wp_Qm_become
  refine ⟨vp_in_nI hm (by omega), ?_⟩
  rw [clN (by omega)]
  refine s_keep hn hk (fun cm cr c1 c2 c3 => ⟨vp_in_nI hm (by omega), ?_⟩)
  refine s_take (fun f' hf' => ?_)
  refine s_darkCells hmd ?_
  refine t_become hk hm (fun kk sh r1 o1 w1 b1 b2 b3 b4 a1 a2 a3 a4 a5 a6 => ⟨?_, fun m2 hm2 => ?_, hist_push hm hmk hk hn hh c1 c2 c3 b1 b2 b3 b4 a3 a4 a5 a6⟩)
  · congr 2
    apply dk_eq
    intro y hy
    rw [he y hy]
    exact (a1 y hy).symm
  · by_cases q : m2 = m
    · subst q
      rw [va_up_self]
      refine ⟨fun y hy => by rw [hf' y hy]; exact hmd y hy, fun y hy => ?_⟩
      rw [hf' y hy, he y hy, a1 y hy]
    · rw [va_up_ne _ _ q]
      refine ⟨(hmk m2 hm2).1, fun y hy => ?_⟩
      rw [(hmk m2 hm2).2 y hy, a2 _ (by omega)]
