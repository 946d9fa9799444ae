/-! What a mask becomes: both sides' loops. -/
theorem bec2 {chM chR om or0 rows md : IA} {mk : Nat → IA} {chN chK known : Int32} {m : Nat} (hm : m < 4) (hmk : MaskOK mk rows) (hh : HistOK chM chR chN chK om or0 known) (hmd : g16 md) {Q : Int32 → IA → IA → Int32 → Int32 → (Nat → IA) → Prop}
    (hQ : ∀ r a b c d e, (∀ (fresh : IA) (Q2 : Int32 → IA → IA → IA → Int32 → Prop), (∀ y, y < 16 → md y = fresh y) → (∀ rows' om' or' k', MaskOK e rows' → HistOK a b c d om' or' k' → Q2 r rows' om' or' k') → wp_Md_become rows fresh om or0 known (nI m) Q2) → Q r a b c d e) :
    wp_Qm_become chM chR chN chK md mk (nI m) Q := by
  obtain ⟨k, n, hk, hn, rfl, rfl, rfl, hh⟩ := hh
  unfold wp_Qm_become
  refine ⟨vp_in_nI hm (by omega), ?_⟩
  rw [clN (by omega)]
  refine s_keep hn hk (fun cm cr c1 c2 c3 => ⟨vp_in_nI hm (by omega), ?_⟩)
  refine s_take (fun f' hf' => ?_)
  refine s_darkCells hmd ?_
  refine hQ _ _ _ _ _ _ (fun fresh Q2 he hQ2 => ?_)
  refine t_become hk hm (fun kk sh r1 o1 w1 b1 b2 b3 b4 a1 a2 a3 a4 a5 a6 => ?_)
  have e : ctg (dk (mg r1 m)) = ctg (dk md) := by
    congr 1
    apply dk_eq
    intro y hy
    rw [he y hy]
    exact a1 y hy
  rw [e]
  refine hQ2 _ _ _ _ (fun m2 hm2 => ?_) (hist_push hm hmk hk hn hh c1 c2 c3 b1 b2 b3 b4 a3 a4 a5 a6)
  by_cases q : m2 = m
  · subst q
    rw [va_up_self]
    refine ⟨fun y hy => by rw [hf' y hy]; exact hmd y hy, fun y hy => ?_⟩
    rw [hf' y hy, he y hy, a1 y hy]
  · rw [va_up_ne _ _ q]
    refine ⟨(hmk m2 hm2).1, fun y hy => ?_⟩
    rw [(hmk m2 hm2).2 y hy, a2 _ (by omega)]
/-- the like without the count: for reading -/
theorem bec3 {chM chR om or0 rows md : IA} {mk : Nat → IA} {chN chK known : Int32} {m : Nat} (hm : m < 4) (hmk : MaskOK mk rows) (hh : HistOK chM chR chN chK om or0 known) (hmd : g16 md) {Q : Int32 → IA → IA → Int32 → Int32 → (Nat → IA) → Prop}
    (hQ : ∀ r a b c d e, (∀ (fresh : IA) (Q2 : IA → IA → IA → Int32 → Prop), (∀ y, y < 16 → md y = fresh y) → (∀ rows' om' or' k', MaskOK e rows' → HistOK a b c d om' or' k' → Q2 rows' om' or' k') → wp_Md_becomes rows fresh om or0 known (nI m) Q2) → Q r a b c d e) :
    wp_Qm_become chM chR chN chK md mk (nI m) Q := by
  obtain ⟨k, n, hk, hn, rfl, rfl, rfl, hh⟩ := hh
  unfold wp_Qm_become
  refine ⟨vp_in_nI hm (by omega), ?_⟩
  rw [clN (by omega)]
  refine s_keep hn hk (fun cm cr c1 c2 c3 => ⟨vp_in_nI hm (by omega), ?_⟩)
  refine s_take (fun f' hf' => ?_)
  refine s_darkCells hmd ?_
  refine hQ _ _ _ _ _ _ (fun fresh Q2 he hQ2 => ?_)
  refine t_becomes hk hm (fun kk sh r1 o1 w1 b1 b2 b3 b4 a1 a2 a3 a4 a5 a6 => ?_)
  refine hQ2 _ _ _ _ (fun m2 hm2 => ?_) (hist_push hm hmk hk hn hh c1 c2 c3 b1 b2 b3 b4 a3 a4 a5 a6)
  by_cases q : m2 = m
  · subst q
    rw [va_up_self]
    refine ⟨fun y hy => by rw [hf' y hy]; exact hmd y hy, fun y hy => ?_⟩
    rw [hf' y hy, he y hy, a1 y hy]
  · rw [va_up_ne _ _ q]
    refine ⟨(hmk m2 hm2).1, fun y hy => ?_⟩
    rw [(hmk m2 hm2).2 y hy, a2 _ (by omega)]
theorem t_overL {rows fresh : IA} {m : Nat} (hm : m < 4) {K : Int32 → IA → Prop} (hK : ∀ f' : IA, (∀ y, y < 16 → f' y = 65535 ^^^ mg rows m y) → K (nI 16) f') : ∃ k, wl_Md_over_19 rows (nI m) K k 0 fresh := by
  refine lp (fun n i (s : IA) => wl_Md_over_19 rows (nI m) K n (nI i) s) (fun i s => ∀ y, y < i → s y = 65535 ^^^ mg rows m y) 16 fresh (fun y hy => by omega) (fun n s h => ?_) (fun n i s hi h ih => ?_)
  · rw [wl_Md_over_19]
    exact ⟨fun _ => hK s h, fun q => absurd le16 q⟩
  · rw [wl_Md_over_19]
    refine ⟨fun q => absurd q (ge16 hi), fun _ => ?_⟩
    rw [ix64 hm hi, clN (by omega), clN (by omega), nI_1]
    refine ⟨vp_in_nI (by omega) (by omega), in16 hi, fun f1 e1 => ?_⟩
    subst e1
    refine ih _ (fun y hy => ?_)
    by_cases q : y = i
    · subst q; exact pk_us
    · rw [pk_un q]; exact h y (by omega)
def jop (k : Int32) (p q : Int32) : Int32 := if k = 0 then p ||| q else if k = 1 then p &&& q else if k = 2 then p &&& (q ^^^ (-1)) else p ^^^ q
theorem jop_r16 {k p q : Int32} (hp : r16 p) (hq : r16 q) : r16 (jop k p q) := by
  unfold jop
  by_cases h0 : k = 0
  · rw [if_pos h0]; exact r16_or hp hq
  · rw [if_neg h0]
    by_cases h1 : k = 1
    · rw [if_pos h1]; exact r16_and _ hp
    · rw [if_neg h1]
      by_cases h2 : k = 2
      · rw [if_pos h2]; exact r16_and _ hp
      · rw [if_neg h2]; exact r16_xor hp hq
theorem s_joined (k p q : Int32) {Q : Int32 → Prop} (hQ : Q (jop k p q)) : wp_Qm_joinedRow k p q Q := by
  unfold jop at hQ
  unfold wp_Qm_joinedRow
  refine ⟨fun h => ?_, fun h => ⟨fun h1 => ?_, fun h1 => ⟨fun h2 => ?_, fun h2 => ?_⟩⟩⟩
  · rw [if_pos h] at hQ; exact hQ
  · rw [if_neg h, if_pos h1] at hQ; exact hQ
  · rw [if_neg h, if_neg h1, if_pos h2] at hQ; exact hQ
  · rw [if_neg h, if_neg h1, if_neg h2] at hQ; exact hQ
theorem s_joinL {mk : Nat → IA} {md : IA} {k : Int32} {a b : Nat} (ha : a < 4) (hb : b < 4) (ga : g16 (mk a)) (gb : g16 (mk b)) {K : Int32 → IA → Prop} (hK : ∀ f' : IA, (∀ y, y < 16 → f' y = jop k (mk a y) (mk b y)) → K (nI 16) f') : ∃ n, wl_Qm_join_36 mk k (nI a) (nI b) K n 0 md := by
  refine lp (fun n i (s : IA) => wl_Qm_join_36 mk k (nI a) (nI b) K n (nI i) s) (fun i s => ∀ y, y < i → s y = jop k (mk a y) (mk b y)) 16 md (fun y hy => by omega) (fun n s h => ?_) (fun n i s hi h ih => ?_)
  · rw [wl_Qm_join_36]
    exact ⟨fun _ => hK s h, fun q => absurd le16 q⟩
  · rw [wl_Qm_join_36]
    refine ⟨fun q => absurd q (ge16 hi), fun _ => ⟨vp_in_nI ha (by omega), ?_⟩⟩
    rw [e_row, clN (by omega), clN (by omega)]
    refine ⟨fun _ => ⟨vp_in_nI hb (by omega), ?_⟩, fun q => absurd (in16 hi) q⟩
    rw [e_row, clN (by omega)]
    refine ⟨fun _ => s_joined _ _ _ ?_, fun q => absurd (in16 hi) q⟩
    rw [e_setRow, clN (by omega), nI_1, m16 (jop_r16 (ga i hi) (gb i hi))]
    refine ⟨fun _ => ih _ (fun y hy => ?_), fun q => absurd (in16 hi) q⟩
    by_cases q : y = i
    · subst q; exact pk_us
    · rw [pk_un q]; exact h y (by omega)
theorem t_joinL {rows fresh : IA} {k : Int32} {a b : Nat} (ha : a < 4) (hb : b < 4) {K : Int32 → IA → Prop} (hK : ∀ f' : IA, (∀ y, y < 16 → f' y = jop k (mg rows a y) (mg rows b y)) → K (nI 16) f') : ∃ n, wl_Md_join_40 rows k (nI a) (nI b) K n 0 fresh := by
  refine lp (fun n i (s : IA) => wl_Md_join_40 rows k (nI a) (nI b) K n (nI i) s) (fun i s => ∀ y, y < i → s y = jop k (mg rows a y) (mg rows b y)) 16 fresh (fun y hy => by omega) (fun n s h => ?_) (fun n i s hi h ih => ?_)
  · rw [wl_Md_join_40]
    exact ⟨fun _ => hK s h, fun q => absurd le16 q⟩
  · rw [wl_Md_join_40]
    refine ⟨fun q => absurd q (ge16 hi), fun _ => ?_⟩
    rw [ix64 ha hi, ix64 hb hi, clN (by omega), clN (by omega)]
    refine ⟨vp_in_nI (by omega) (by omega), fun x6 e6 => ⟨vp_in_nI (by omega) (by omega), fun x7 e7 => ?_⟩⟩
    have key : ∀ v, v = jop k x6 x7 → wj_Md_join_126 (nI i) s (wl_Md_join_40 rows k (nI a) (nI b) K n) v := by
      intro v ev
      unfold wj_Md_join_126
      rw [clN (by omega), nI_1]
      refine ⟨in16 hi, fun f1 e1 => ?_⟩
      subst e1
      refine ih _ (fun y hy => ?_)
      by_cases q : y = i
      · subst q; rw [pk_us, ev, e6, e7]; rfl
      · rw [pk_un q]; exact h y (by omega)
    unfold jn
    refine ⟨fun h0 => key _ ?_, fun h0 => ⟨fun h1 => key _ ?_, fun h1 => ⟨fun h2 => key _ ?_, fun h2 => key _ ?_⟩⟩⟩
    · unfold jop; rw [if_pos h0]
    · unfold jop; rw [if_neg h0, if_pos h1]
    · unfold jop; rw [if_neg h0, if_neg h1, if_pos h2]
    · unfold jop; rw [if_neg h0, if_neg h1, if_neg h2]
