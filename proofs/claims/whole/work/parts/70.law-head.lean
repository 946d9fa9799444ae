/-! The law: one theorem a case. Printed by wip/whole/gen/mklaw.py (but for the first rows). -/
theorem ap_l (A B : va_W) {n : Nat} (hn : A.length = n) : (List.range n).map (fun i => (A ++ B)[i]?) = A.map some := by
  subst hn
  apply List.ext_getElem
  · simp
  · intro i h1 h2
    simp at h1 h2
    simp [List.getElem?_append_left h2]
theorem ap_r (A B : va_W) {n k : Nat} (hn : A.length = n) (hk : B.length = k) : ((List.range k).map (n + ·)).map (fun i => (A ++ B)[i]?) = B.map some := by
  subst hn; subst hk
  apply List.ext_getElem
  · simp
  · intro i h1 h2
    simp at h1 h2
    simp [List.getElem?_append_right, h2]
theorem fm_of {is : List Nat} {f : Nat → Option (Nat × va_E)} {wc : va_W} (h : is.map f = wc.map some) : is.filterMap f = wc := by
  have e : is.filterMap f = (is.map f).filterMap id := by
    rw [List.filterMap_map]
    rfl
  rw [e, h, List.filterMap_map]
  simp
theorem in_off {i k L : Nat} (hi : i + 7 ≤ L) (hL : L ≤ 3584) (hk : k < 7) : vp_in (nI i + nI k) L := by
  rw [nI_add]
  exact vp_in_nI (by omega) (by omega)
theorem cl_off {i k L : Nat} (hi : i + 7 ≤ L) (hL : L ≤ 3584) (hk : k < 7) : (nI i + nI k).toNatClampNeg = i + k := by
  rw [nI_add]
  exact nI_clamp (by omega)
section LAW
variable {p : Program} {l : Launch} {e : Env} {R : Room} {s : State} {m : MethodId} {args : Array Value} {below : List Frame} {meth : Method} {c : Code} {G : GG} {A : Nat → Prop} {nL : Nat} {Q : State → Prop} {cs sl : Nat} {ws : va_W} {lv : List (Nat × Value)} {pc : Nat} {st : List Value} {cc : ByteArray} {Ts : List Cond} {own : String}
theorem n_sld (C : qm_C0 p s m args c G A cc nL Ts own) {b L : Nat} {xs : Nat → Int32} (hX : va_X b L xs s s.heap) (hbl : b < s.heap.size) (hbA : ¬ A b) {i : Int32} (hin : vp_in i L) (hdg : decode cc pc = .ok (.iaload, 1)) (k : qm_N0 p l e R s m args below meth c G A nL Q cs sl ws lv (pc + 1) (.int (xs i.toNatClampNeg) :: st)) : qm_N0 p l e R s m args below meth c G A nL Q cs sl ws lv pc (.int i :: .ref b :: st) :=
  fun H locs ls a y d f => va_sld C.1.1 C.1.2.1 hX hbl hbA d hin hdg (k H locs ls a y d f)
theorem n_slen (C : qm_C0 p s m args c G A cc nL Ts own) {b L : Nat} {xs : Nat → Int32} (hX : va_X b L xs s s.heap) (hbl : b < s.heap.size) (hbA : ¬ A b) (hdg : decode cc pc = .ok (.arraylength, 1)) (k : qm_N0 p l e R s m args below meth c G A nL Q cs sl ws lv (pc + 1) (.int (nI L) :: st)) : qm_N0 p l e R s m args below meth c G A nL Q cs sl ws lv pc (.ref b :: st) :=
  fun H locs ls a y d f => va_slen C.1.1 C.1.2.1 hX hbl hbA d hdg (k H locs ls a y d f)
theorem n_tin (C : qm_C0 p s m args c G A cc nL Ts own) {dflt lo hi off : Int} {offs : Array Int} {len : Nat} {x : Int32} (kx : Int32) (tgt : Nat) (hx : x = kx) (hdg : decode cc pc = .ok (.tableswitch dflt lo hi offs, len)) (h1 : ¬ kx.toInt < lo ∧ ¬ hi < kx.toInt) (ho : offs[(kx.toInt - lo).toNat]? = some off) (ht : (pc : Int) + off = (tgt : Int)) (k : qm_N0 p l e R s m args below meth c G A nL Q cs sl ws lv tgt st) : qm_N0 p l e R s m args below meth c G A nL Q cs sl ws lv pc (.int x :: st) := by
  subst hx
  exact fun H locs ls a b d f => lv_tableIn C.1.1 C.1.2.1 hdg h1.1 h1.2 ho ht (k H locs ls a b d f)
theorem n_tout (C : qm_C0 p s m args c G A cc nL Ts own) {dflt lo hi : Int} {offs : Array Int} {len : Nat} {x : Int32} (tgt : Nat) (hdg : decode cc pc = .ok (.tableswitch dflt lo hi offs, len)) (h : x.toInt < lo ∨ hi < x.toInt) (ht : (pc : Int) + dflt = (tgt : Int)) (k : qm_N0 p l e R s m args below meth c G A nL Q cs sl ws lv tgt st) : qm_N0 p l e R s m args below meth c G A nL Q cs sl ws lv pc (.int x :: st) :=
  fun H locs ls a b d f => lv_tableOut C.1.1 C.1.2.1 hdg h ht (k H locs ls a b d f)
theorem n_arg (C : qm_C0 p s m args c G A cc nL Ts own) {b L : Nat} {xs : Nat → Int32} (hX : va_X b L xs s s.heap) (hbl : b < s.heap.size) (hbA : ¬ A b) {i : Nat} (hi : i + 7 ≤ L) (hL : L ≤ 3584) (k : Nat) (hk : k < 7) {n : Int} (d0 : decode cc pc = .ok (.aload_n 0, 1)) (d1 : decode cc (pc + 1) = .ok (.iload_n 3, 1)) (d2 : decode cc (pc + 1 + 1) = .ok (.iconst n, 1)) (hn : Int32.ofInt n = nI k) (d3 : decode cc (pc + 1 + 1 + 1) = .ok (.iadd, 1)) (d4 : decode cc (pc + 1 + 1 + 1 + 1) = .ok (.iaload, 1)) (j0 j3 : Nat) (e0 : lv[j0]? = some (0, .ref b)) (e3 : lv[j3]? = some (3, .int (nI i))) (kk : qm_N0 p l e R s m args below meth c G A nL Q cs sl ws lv (pc + 1 + 1 + 1 + 1 + 1) (.int (xs (i + k)) :: st)) : qm_N0 p l e R s m args below meth c G A nL Q cs sl ws lv pc st := by
  refine n_aload_n C d0 rfl j0 e0 ?_
  refine n_iload_n C d1 rfl j3 e3 ?_
  refine n_iconst C (nI k) d2 hn ?_
  refine n_iadd C d3 ?_
  refine n_sld C hX hbl hbA (in_off hi hL hk) d4 ?_
  rw [cl_off hi hL hk]
  exact kk
theorem n_argB (C : qm_C0 p s m args c G A cc nL Ts own) {b L : Nat} {xs : Nat → Int32} (hX : va_X b L xs s s.heap) (hbl : b < s.heap.size) (hbA : ¬ A b) {i : Nat} (hi : i + 7 ≤ L) (hL : L ≤ 3584) (k : Nat) (hk : k < 7) {n : Int} (d0 : decode cc pc = .ok (.aload_n 0, 1)) (d1 : decode cc (pc + 1) = .ok (.iload_n 3, 1)) (d2 : decode cc (pc + 1 + 1) = .ok (.bipush n, 2)) (hn : (Int8.ofInt n).toInt32 = nI k) (d3 : decode cc (pc + 1 + 1 + 2) = .ok (.iadd, 1)) (d4 : decode cc (pc + 1 + 1 + 2 + 1) = .ok (.iaload, 1)) (j0 j3 : Nat) (e0 : lv[j0]? = some (0, .ref b)) (e3 : lv[j3]? = some (3, .int (nI i))) (kk : qm_N0 p l e R s m args below meth c G A nL Q cs sl ws lv (pc + 1 + 1 + 2 + 1 + 1) (.int (xs (i + k)) :: st)) : qm_N0 p l e R s m args below meth c G A nL Q cs sl ws lv pc st := by
  refine n_aload_n C d0 rfl j0 e0 ?_
  refine n_iload_n C d1 rfl j3 e3 ?_
  refine n_bipush C (nI k) d2 hn ?_
  refine n_iadd C d3 ?_
  refine n_sld C hX hbl hbA (in_off hi hL hk) d4 ?_
  rw [cl_off hi hL hk]
  exact kk
end LAW
