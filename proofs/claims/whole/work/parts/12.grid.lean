/-! The grid. Printed by wip/whole/gen/mkall.py. -/
/-! A method of a class that has native rows, but none for this method. -/
theorem qm_ofWF {l : Launch} {y : MethodName} {wl wl' : List Cond} {rm : Room} {Pc : Array Value → State → Prop} {Qc : Array Value → State → Outcome → State → Prop} {mc ms : Nat} {free : Addr → Prop} {cc : ByteArray} {maxL : Nat} {ret : Option FieldType}
    (hy : plainFor y = true) (hw : wl = Cond.code y cc maxL ret :: wl')
    (body : ∀ p e s m args below meth c s₁, BodyLoose p l y (headSpec wl rm) cc maxL ret e s m args below meth c s₁ → c.maxLocals = maxL → Pc args s →
      W p l e (headSpec wl rm).room s m args below meth c s.heap [] 0 0 (MQ below Qc args s mc ms free) (entryFrame m args maxL)) : Met l y wl rm Pc Qc mc ms free := by
  refine MetFree.of_bodySF (code := cc) (maxLocals := maxL) (ret := ret) hy (fun args s m h hn => ?_) (fun p e s m args below meth c s₁ B hml hP _ => ?_)
  · obtain ⟨meth, c, h1, h2, h3, h4, h5, h6, -, -⟩ := Cond.code_spec hn (atoms_spec (ws := wl) h _ (by rw [hw]; exact List.mem_cons_self))
    exact ⟨meth, c, h1, h2, h3, h4, h5, h6⟩
  · have hh0 : s₁.heap = s.heap := by rw [B.state]; rfl
    obtain ⟨t, a1, o, b1, b2, b3⟩ := body p e s m args below meth c s₁ B hml hP s₁ hh0 (Stand.of_body B)
    exact ⟨t, o, a1, b1, b2, ⟨b3.1, b3.2⟩⟩
theorem qm_mkIF {l : Launch} {S : Type} {y : MethodName} {wl wl' : List Cond} {rm : Room} {G : GG} {av : List Value} {ws : va_W} {post : Int32 → S → Prop} {Wd : S → va_W} {cc : ByteArray} {maxL : Nat} (hy : plainFor y = true) (hw : wl = Cond.code y cc maxL (some .int) :: wl') (hlen : (lg_sl av).length ≤ maxL)
    (body : ∀ (X : CT), qm_C G maxL X cc wl y.cls → (∀ (ws1 : va_W) (lv : List (Nat × Value)) (pc : Nat) (v : Int32) (u : S) (hq : post v u), ws1 = Wd u → decode cc pc = .ok (.ireturn, 1) → qm_V l G rm maxL X ws1 lv pc [.int v]) → qm_V l G rm maxL X ws (lv_args 0 av) 0 []) : qm_MI l y wl rm G av ws post Wd := by
  intro sz
  refine qm_ofWF (cc := cc) (maxL := maxL) (ret := some .int) hy hw ?_
  intro p e s m args below meth c s₁ B hml hv
  obtain ⟨rfl, hsz, hP, hK, hD0, hN⟩ := hv
  subst hsz
  have hl := lv_entry av (n := maxL) hlen
  have hA : ∀ q : Nat, s.heap.size ≤ q → va_A ws s.heap.size q := fun q h => Or.inr h
  rw [lg_entry_eq]
  have hC : qm_C0 p s m (av.toArray : Array Value) c G (va_A ws s.heap.size) cc maxL wl y.cls := ⟨⟨B.exec, B.bytes, hml, findClass_of_methodNamed B.named, atoms_spec (ws := wl) B.pre⟩, hK, hA, hN⟩
  exact body (p, e, s, m, (av.toArray : Array Value), below, meth, c, va_A ws s.heap.size, qm_QI below G av.toArray s ws post Wd) hC (fun ws1 lv pc v u hq hw hdg => u_iret hC B.returns B.notSynchronized rfl u hq hw hdg) s.heap [] _ hP hD0.self va_S.rf hl
-- QuarterMasks.within
def rmX5_within : Room := { frames := 1, cells := 0, slots := 0, locals := 40 }
theorem kX5_within : yX5_within.cls ≠ "java/lang/invoke/MethodHandle" ∧ yX5_within.cls ≠ "java/lang/invoke/VarHandle" ∧ (parseMethodDescriptor yX5_within.desc).map (fun d => d.parameters.length) = some 2 := by decide +kernel
def wp_Qm_within  (a0 : Int32) (a1 : Int32) (Q : Int32 → Prop) : Prop :=
  (a0 < 0 → (Q 0)) ∧ (¬ a0 < 0 → ((a1 ≤ a0 → (Q 0)) ∧ (¬ a1 ≤ a0 → (Q 1))))
set_option maxHeartbeats 4000000 in
theorem c_Qm_within (l : Launch) (G : GG) (ws : va_W)  (a0 : Int32) (a1 : Int32) {Q : Int32 → Prop} (h : wp_Qm_within a0 a1 Q) : qm_MI l yX5_within wsX5_within rmX5_within G [.int a0, .int a1] (ws) (fun (r : Int32) (_ : Unit) => Q r) (fun (_ : Unit) => ws) := by
  refine qm_mkZ (cc := cX5_within) (maxL := 2) (by decide) rfl (Nat.le_of_ble_eq_true rfl) ?_
  intro X C hret
  replace C : qm_C G 2 X cX5_within wsX5_within RX5 := C
  refine v_lv (lv' := [(0, .int a0), (1, .int a1)]) rfl ?_
  unfold wp_Qm_within at h
  refine v_iload_n C dX5_within_0 rfl 0 rfl ?_
  refine v_if_lt C 13 dX5_within_1 (by decide) (fun c_2 => ?_) (fun c_2 => ?_)
  · replace h := h.1 c_2
    refine v_iconst C 0 dX5_within_13 (by decide) ?_
    exact hret _ _ _ 0 () h rfl rfl dX5_within_14
  · replace h := h.2 c_2
    refine v_iload_n C dX5_within_4 rfl 0 rfl ?_
    refine v_iload_n C dX5_within_5 rfl 1 rfl ?_
    refine v_icmp_ge C 13 dX5_within_6 (by decide) (fun c_1 => ?_) (fun c_1 => ?_)
    · replace h := h.1 c_1
      refine v_iconst C 0 dX5_within_13 (by decide) ?_
      exact hret _ _ _ 0 () h rfl rfl dX5_within_14
    · replace h := h.2 c_1
      refine v_iconst C 1 dX5_within_9 (by decide) ?_
      refine v_goto C 14 dX5_within_10 (by decide) ?_
      exact hret _ _ _ 1 () h rfl rfl dX5_within_14
-- java/lang/Integer.bitCount
def rmJ6_bitCount_0f7a4 : Room := { frames := 1, cells := 0, slots := 0, locals := 40 }
theorem kJ6_bitCount_0f7a4 : yJ6_bitCount_0f7a4.cls ≠ "java/lang/invoke/MethodHandle" ∧ yJ6_bitCount_0f7a4.cls ≠ "java/lang/invoke/VarHandle" ∧ (parseMethodDescriptor yJ6_bitCount_0f7a4.desc).map (fun d => d.parameters.length) = some 1 := by decide +kernel
theorem mJ6_bitCount_0f7a4_w1 : Cond.constant RJ6 265 (1431655765) ∈ wsJ6_bitCount_0f7a4 := List.mem_of_getElem? (i := 1) rfl
theorem mJ6_bitCount_0f7a4_w2 : Cond.constant RJ6 266 (858993459) ∈ wsJ6_bitCount_0f7a4 := List.mem_of_getElem? (i := 2) rfl
theorem mJ6_bitCount_0f7a4_w3 : Cond.constant RJ6 267 (252645135) ∈ wsJ6_bitCount_0f7a4 := List.mem_of_getElem? (i := 3) rfl
def wp_In_bitCount  (a0 : Int32) (Q : Int32 → Prop) : Prop :=
  ∀ x0_1 : Int32, x0_1 = (a0 - ((jush a0 1) &&& 1431655765)) → (∀ x0_2 : Int32, x0_2 = ((x0_1 &&& 858993459) + ((jush x0_1 2) &&& 858993459)) → (∀ x0_3 : Int32, x0_3 = ((x0_2 + (jush x0_2 4)) &&& 252645135) → (∀ x0_4 : Int32, x0_4 = (x0_3 + (jush x0_3 8)) → (∀ x0_5 : Int32, x0_5 = (x0_4 + (jush x0_4 16)) → (Q (x0_5 &&& 63))))))
set_option maxHeartbeats 4000000 in
theorem c_In_bitCount (l : Launch) (G : GG) (ws : va_W)  (a0 : Int32) {Q : Int32 → Prop} (h : wp_In_bitCount a0 Q) : qm_MI l yJ6_bitCount_0f7a4 wsJ6_bitCount_0f7a4 rmJ6_bitCount_0f7a4 G [.int a0] (ws) (fun (r : Int32) (_ : Unit) => Q r) (fun (_ : Unit) => ws) := by
  refine qm_mkI (cc := cJ6_bitCount_0f7a4) (maxL := 1) (by decide) rfl (Nat.le_of_ble_eq_true rfl) ?_
  intro X C hret
  replace C : qm_C G 1 X cJ6_bitCount_0f7a4 wsJ6_bitCount_0f7a4 RJ6 := C
  refine v_lv (lv' := [(0, .int a0)]) rfl ?_
  unfold wp_In_bitCount at h
  refine v_iload_n C dJ6_bitCount_0f7a4_0 rfl 0 rfl ?_
  refine v_iload_n C dJ6_bitCount_0f7a4_1 rfl 0 rfl ?_
  refine v_iconst C 1 dJ6_bitCount_0f7a4_2 (by decide) ?_
  refine v_iushr C dJ6_bitCount_0f7a4_3 ?_
  refine v_ldcw C 1431655765 mJ6_bitCount_0f7a4_w1 dJ6_bitCount_0f7a4_4 ?_
  refine v_iand C dJ6_bitCount_0f7a4_7 ?_
  refine v_isub C dJ6_bitCount_0f7a4_8 ?_
  refine v_topi (fun x0_1 ex0_1 => ?_)
  replace h := h x0_1 ex0_1
  refine v_istore_n C [(0, .int x0_1)] dJ6_bitCount_0f7a4_9 rfl (by decide) rfl ?_
  refine v_iload_n C dJ6_bitCount_0f7a4_10 rfl 0 rfl ?_
  refine v_ldcw C 858993459 mJ6_bitCount_0f7a4_w2 dJ6_bitCount_0f7a4_11 ?_
  refine v_iand C dJ6_bitCount_0f7a4_14 ?_
  refine v_iload_n C dJ6_bitCount_0f7a4_15 rfl 0 rfl ?_
  refine v_iconst C 2 dJ6_bitCount_0f7a4_16 (by decide) ?_
  refine v_iushr C dJ6_bitCount_0f7a4_17 ?_
  refine v_ldcw C 858993459 mJ6_bitCount_0f7a4_w2 dJ6_bitCount_0f7a4_18 ?_
  refine v_iand C dJ6_bitCount_0f7a4_21 ?_
  refine v_iadd C dJ6_bitCount_0f7a4_22 ?_
  refine v_topi (fun x0_2 ex0_2 => ?_)
  replace h := h x0_2 ex0_2
  refine v_istore_n C [(0, .int x0_2)] dJ6_bitCount_0f7a4_23 rfl (by decide) rfl ?_
  refine v_iload_n C dJ6_bitCount_0f7a4_24 rfl 0 rfl ?_
  refine v_iload_n C dJ6_bitCount_0f7a4_25 rfl 0 rfl ?_
  refine v_iconst C 4 dJ6_bitCount_0f7a4_26 (by decide) ?_
  refine v_iushr C dJ6_bitCount_0f7a4_27 ?_
  refine v_iadd C dJ6_bitCount_0f7a4_28 ?_
  refine v_ldcw C 252645135 mJ6_bitCount_0f7a4_w3 dJ6_bitCount_0f7a4_29 ?_
  refine v_iand C dJ6_bitCount_0f7a4_32 ?_
  refine v_topi (fun x0_3 ex0_3 => ?_)
  replace h := h x0_3 ex0_3
  refine v_istore_n C [(0, .int x0_3)] dJ6_bitCount_0f7a4_33 rfl (by decide) rfl ?_
  refine v_iload_n C dJ6_bitCount_0f7a4_34 rfl 0 rfl ?_
  refine v_iload_n C dJ6_bitCount_0f7a4_35 rfl 0 rfl ?_
  refine v_bipush C 8 dJ6_bitCount_0f7a4_36 (by decide) ?_
  refine v_iushr C dJ6_bitCount_0f7a4_38 ?_
  refine v_iadd C dJ6_bitCount_0f7a4_39 ?_
  refine v_topi (fun x0_4 ex0_4 => ?_)
  replace h := h x0_4 ex0_4
  refine v_istore_n C [(0, .int x0_4)] dJ6_bitCount_0f7a4_40 rfl (by decide) rfl ?_
  refine v_iload_n C dJ6_bitCount_0f7a4_41 rfl 0 rfl ?_
  refine v_iload_n C dJ6_bitCount_0f7a4_42 rfl 0 rfl ?_
  refine v_bipush C 16 dJ6_bitCount_0f7a4_43 (by decide) ?_
  refine v_iushr C dJ6_bitCount_0f7a4_45 ?_
  refine v_iadd C dJ6_bitCount_0f7a4_46 ?_
  refine v_topi (fun x0_5 ex0_5 => ?_)
  replace h := h x0_5 ex0_5
  refine v_istore_n C [(0, .int x0_5)] dJ6_bitCount_0f7a4_47 rfl (by decide) rfl ?_
  refine v_iload_n C dJ6_bitCount_0f7a4_48 rfl 0 rfl ?_
  refine v_bipush C 63 dJ6_bitCount_0f7a4_49 (by decide) ?_
  refine v_iand C dJ6_bitCount_0f7a4_51 ?_
  exact hret _ _ _ (x0_5 &&& 63) () h rfl dJ6_bitCount_0f7a4_52
-- java/util/Arrays.fill
def rmJ7_fill_53178 : Room := { frames := 1, cells := 0, slots := 0, locals := 40 }
theorem kJ7_fill_53178 : yJ7_fill_53178.cls ≠ "java/lang/invoke/MethodHandle" ∧ yJ7_fill_53178.cls ≠ "java/lang/invoke/VarHandle" ∧ (parseMethodDescriptor yJ7_fill_53178.desc).map (fun d => d.parameters.length) = some 2 := by decide +kernel
def wl_Ar_fill_5 (a1 : Int32) (len : Nat) (Q : IA → Prop) (x3_1 : Int32) : Nat → Int32 → IA → Prop
  | 0, _, _ => False
  | n + 1, x2_1, g_1 => (x3_1 ≤ x2_1 → (Q g_1)) ∧ (¬ x3_1 ≤ x2_1 → (vp_in x2_1 len ∧ (∀ f_g_1 : IA, f_g_1 = upd g_1 x2_1.toNatClampNeg a1 → ((wl_Ar_fill_5 a1 len Q x3_1 n) (x2_1 + 1) f_g_1))))
def wp_Ar_fill (g : IA) (len : Nat) (a1 : Int32) (Q : IA → Prop) : Prop :=
  ∀ x3_1 : Int32, x3_1 = (nI len) → (∃ k_1 : Nat, wl_Ar_fill_5 a1 len Q x3_1 k_1 0 g)
set_option maxHeartbeats 4000000 in
theorem c_Ar_fill (l : Launch) (G : GG) (ad : Nat → Nat) (Wd : IA → va_W) (pos len : Nat) (hT : ∀ g : IA, (Wd g)[pos]? = some (ad pos, .inl (G.2.1, len, .inl g)) ∧ ∀ z : IA, (Wd g).set pos (ad pos, .inl (G.2.1, len, .inl z)) = Wd z) (g : IA) (a1 : Int32) {Q : IA → Prop} (h : wp_Ar_fill g len a1 Q) : qm_MV l yJ7_fill_53178 wsJ7_fill_53178 rmJ7_fill_53178 G [.ref (ad pos), .int a1] (Wd g) (fun (u : IA) => Q u) (fun (u : IA) => Wd u) := by
  refine qm_mkV (cc := cJ7_fill_53178) (maxL := 4) (by decide) rfl (Nat.le_of_ble_eq_true rfl) ?_
  intro X C hret
  replace C : qm_C G 4 X cJ7_fill_53178 wsJ7_fill_53178 RJ7 := C
  refine v_lv (lv' := [(0, .ref (ad pos)), (1, .int a1)]) rfl ?_
  unfold wp_Ar_fill at h
  refine v_iconst C 0 dJ7_fill_53178_0 (by decide) ?_
  refine v_istore_n C [(2, .int 0), (0, .ref (ad pos)), (1, .int a1)] dJ7_fill_53178_1 rfl (by decide) rfl ?_
  refine v_aload_n C dJ7_fill_53178_2 rfl 1 rfl ?_
  refine v_alen C pos (hT g).1 dJ7_fill_53178_3 ?_
  refine v_topi (fun x3_1 ex3_1 => ?_)
  replace h := h x3_1 ex3_1
  refine v_istore_n C [(3, .int x3_1), (2, .int 0), (0, .ref (ad pos)), (1, .int a1)] dJ7_fill_53178_4 rfl (by decide) rfl ?_
  have hl_1 : ∀ n_1 : Nat, ∀ (x2_1 : Int32) (g_1 : IA), wl_Ar_fill_5 a1 len Q x3_1 n_1 x2_1 g_1 → qm_V l G rmJ7_fill_53178 4 X (Wd g_1) [(3, .int x3_1), (2, .int x2_1), (0, .ref (ad pos)), (1, .int a1)] 5 [] := by
    intro n_1
    induction n_1 with
    | zero =>
      intro x2_1 g_1 h
      exact False.elim h
    | succ n_1 ih_1 =>
      intro x2_1 g_1 h
      rw [wl_Ar_fill_5] at h
      refine v_iload_n C dJ7_fill_53178_5 rfl 1 rfl ?_
      refine v_iload_n C dJ7_fill_53178_6 rfl 0 rfl ?_
      refine v_icmp_ge C 20 dJ7_fill_53178_7 (by decide) (fun c_1 => ?_) (fun c_1 => ?_)
      · replace h := h.1 c_1
        exact hret _ _ _ g_1 h rfl dJ7_fill_53178_20
      · replace h := h.2 c_1
        refine v_aload_n C dJ7_fill_53178_10 rfl 2 rfl ?_
        refine v_iload_n C dJ7_fill_53178_11 rfl 1 rfl ?_
        refine v_iload_n C dJ7_fill_53178_12 rfl 3 rfl ?_
        obtain ⟨hin_1, h⟩ := h
        obtain ⟨f_g_1, ef_g_1⟩ : ∃ y : IA, y = upd g_1 x2_1.toNatClampNeg a1 := ⟨_, rfl⟩
        replace h := h f_g_1 ef_g_1
        refine v_iast C pos (hT g_1).1 (ws' := Wd f_g_1) (by subst ef_g_1; exact ((hT g_1).2 _)) hin_1 dJ7_fill_53178_13 ?_
        refine v_iinc C (x2_1 + 1) 1 [(2, .int (x2_1 + 1)), (3, .int x3_1), (0, .ref (ad pos)), (1, .int a1)] dJ7_fill_53178_14 rfl rfl (by decide) rfl ?_
        refine v_goto C 5 dJ7_fill_53178_17 (by decide) ?_
        refine v_perm [1, 0, 2, 3] rfl ?_
        exact ih_1 (x2_1 + 1) f_g_1 h
  obtain ⟨k_1, h⟩ := h
  exact hl_1 k_1 0 g h
-- java/lang/Math.floorMod
def rmJ9_floorMod_7cf53 : Room := { frames := 1, cells := 0, slots := 0, locals := 40 }
theorem kJ9_floorMod_7cf53 : yJ9_floorMod_7cf53.cls ≠ "java/lang/invoke/MethodHandle" ∧ yJ9_floorMod_7cf53.cls ≠ "java/lang/invoke/VarHandle" ∧ (parseMethodDescriptor yJ9_floorMod_7cf53.desc).map (fun d => d.parameters.length) = some 2 := by decide +kernel
def wp_Ma_floorMod  (a0 : Int32) (a1 : Int32) (Q : Int32 → Prop) : Prop :=
  ¬ a1 = 0 ∧ (∀ x2_1 : Int32, x2_1 = (jrem a0 a1) → ((0 ≤ (a0 ^^^ a1) → (Q x2_1)) ∧ (¬ 0 ≤ (a0 ^^^ a1) → ((x2_1 = 0 → (Q x2_1)) ∧ (¬ x2_1 = 0 → (Q (x2_1 + a1)))))))
set_option maxHeartbeats 4000000 in
theorem c_Ma_floorMod (l : Launch) (G : GG) (ws : va_W)  (a0 : Int32) (a1 : Int32) {Q : Int32 → Prop} (h : wp_Ma_floorMod a0 a1 Q) : qm_MI l yJ9_floorMod_7cf53 wsJ9_floorMod_7cf53 rmJ9_floorMod_7cf53 G [.int a0, .int a1] (ws) (fun (r : Int32) (_ : Unit) => Q r) (fun (_ : Unit) => ws) := by
  refine qm_mkIF (cc := cJ9_floorMod_7cf53) (maxL := 3) (by decide +kernel) rfl (Nat.le_of_ble_eq_true rfl) ?_
  intro X C hret
  replace C : qm_C G 3 X cJ9_floorMod_7cf53 wsJ9_floorMod_7cf53 RJ9 := C
  refine v_lv (lv' := [(0, .int a0), (1, .int a1)]) rfl ?_
  unfold wp_Ma_floorMod at h
  refine v_iload_n C dJ9_floorMod_7cf53_0 rfl 0 rfl ?_
  refine v_iload_n C dJ9_floorMod_7cf53_1 rfl 1 rfl ?_
  obtain ⟨hz_1, h⟩ := h
  refine v_irem C dJ9_floorMod_7cf53_2 hz_1 ?_
  refine v_topi (fun x2_1 ex2_1 => ?_)
  replace h := h x2_1 ex2_1
  refine v_istore_n C [(2, .int x2_1), (0, .int a0), (1, .int a1)] dJ9_floorMod_7cf53_3 rfl (by decide) rfl ?_
  refine v_iload_n C dJ9_floorMod_7cf53_4 rfl 1 rfl ?_
  refine v_iload_n C dJ9_floorMod_7cf53_5 rfl 2 rfl ?_
  refine v_ixor C dJ9_floorMod_7cf53_6 ?_
  refine v_if_ge C 18 dJ9_floorMod_7cf53_7 (by decide) (fun c_2 => ?_) (fun c_2 => ?_)
  · replace h := h.1 c_2
    refine v_iload_n C dJ9_floorMod_7cf53_18 rfl 0 rfl ?_
    exact hret _ _ _ x2_1 () h rfl dJ9_floorMod_7cf53_19
  · replace h := h.2 c_2
    refine v_iload_n C dJ9_floorMod_7cf53_10 rfl 0 rfl ?_
    refine v_if_eq C 18 dJ9_floorMod_7cf53_11 (by decide) (fun c_1 => ?_) (fun c_1 => ?_)
    · replace h := h.1 c_1
      refine v_iload_n C dJ9_floorMod_7cf53_18 rfl 0 rfl ?_
      exact hret _ _ _ x2_1 () h rfl dJ9_floorMod_7cf53_19
    · replace h := h.2 c_1
      refine v_iload_n C dJ9_floorMod_7cf53_14 rfl 0 rfl ?_
      refine v_iload_n C dJ9_floorMod_7cf53_15 rfl 2 rfl ?_
      refine v_iadd C dJ9_floorMod_7cf53_16 ?_
      exact hret _ _ _ (x2_1 + a1) () h rfl dJ9_floorMod_7cf53_17
-- QuarterMasks$Grid.row
def rmX1_row : Room := { frames := 1, cells := 0, slots := 0, locals := 40 }
theorem kX1_row : yX1_row.cls = RX1 ∧ yX1_row.cls ≠ "java/lang/invoke/MethodHandle" ∧ yX1_row.cls ≠ "java/lang/invoke/VarHandle" ∧ (parseMethodDescriptor yX1_row.desc).map (fun d => d.parameters.length) = some 1 := by decide +kernel
theorem mX1_row_w1 : Cond.fieldLink RX1 9 "QuarterMasks$Grid" "rows" "[I" ∈ wsX1_row := List.mem_of_getElem? (i := 1) rfl
theorem iX1_row_1 : ∀ w ∈ wsX10, w ∈ wsX1_row := fun w h => List.mem_cons_of_mem _ (List.mem_append_right _ h)
def wp_Gr_row (t_rows : IA) (a1 : Int32) (Q : Int32 → Prop) : Prop :=
  (a1 < 0 → (Q 0)) ∧ (¬ a1 < 0 → ((16 ≤ a1 → (Q 0)) ∧ (¬ 16 ≤ a1 → (vp_in a1 16 ∧ (Q (t_rows a1.toNatClampNeg))))))
set_option maxHeartbeats 4000000 in
theorem c_Gr_row (l : Launch) (G : GG) (ad : Nat → Nat) (ws : va_W) (tb : Nat) {t_rows : IA} (hT : gR G ad ws tb t_rows)  (a1 : Int32) {Q : Int32 → Prop} (h : wp_Gr_row t_rows a1 Q) : qm_MI l yX1_row wsX1_row rmX1_row G [.ref (ad tb), .int a1] (ws) (fun (r : Int32) (_ : Unit) => Q r) (fun (_ : Unit) => ws) := by
  refine qm_mkI (cc := cX1_row) (maxL := 2) (by decide) rfl (Nat.le_of_ble_eq_true rfl) ?_
  intro X C hret
  replace C : qm_C G 2 X cX1_row wsX1_row RX1 := C
  refine v_lv (lv' := [(0, .ref (ad tb)), (1, .int a1)]) rfl ?_
  unfold wp_Gr_row at h
  refine v_iload_n C dX1_row_0 rfl 1 rfl ?_
  refine v_if_lt C 19 dX1_row_1 (by decide) (fun c_2 => ?_) (fun c_2 => ?_)
  · replace h := h.1 c_2
    refine v_iconst C 0 dX1_row_19 (by decide) ?_
    exact hret _ _ _ 0 () h rfl dX1_row_20
  · replace h := h.2 c_2
    refine v_iload_n C dX1_row_4 rfl 1 rfl ?_
    refine v_bipush C 16 dX1_row_5 (by decide) ?_
    refine v_icmp_ge C 19 dX1_row_7 (by decide) (fun c_1 => ?_) (fun c_1 => ?_)
    · replace h := h.1 c_1
      refine v_iconst C 0 dX1_row_19 (by decide) ?_
      exact hret _ _ _ 0 () h rfl dX1_row_20
    · replace h := h.2 c_1
      refine v_aload_n C dX1_row_10 rfl 0 rfl ?_
      refine v_get C iX1_row_1 tb hT.1 rfl 0 (by decide) mX1_row_w1 rfl rfl dX1_row_11 ?_
      refine v_iload_n C dX1_row_14 rfl 1 rfl ?_
      obtain ⟨hin_1, h⟩ := h
      refine v_iald C (tb + 1) hT.2 hin_1 dX1_row_15 ?_
      refine v_goto C 20 dX1_row_16 (by decide) ?_
      exact hret _ _ _ (t_rows a1.toNatClampNeg) () h rfl dX1_row_20
-- QuarterMasks$Grid.setRow
def rmX1_setRow : Room := { frames := 2, cells := 0, slots := 0, locals := 61 }
theorem kX1_setRow : yX1_setRow.cls = RX1 ∧ yX1_setRow.cls ≠ "java/lang/invoke/MethodHandle" ∧ yX1_setRow.cls ≠ "java/lang/invoke/VarHandle" ∧ (parseMethodDescriptor yX1_setRow.desc).map (fun d => d.parameters.length) = some 2 := by decide +kernel
theorem mX1_setRow_w4 : Cond.initialized RX5 ∈ wsX1_setRow := List.mem_of_getElem? (i := 4) rfl
theorem mX1_setRow_w3 : Cond.static yX5_within ∈ wsX1_setRow := List.mem_of_getElem? (i := 3) rfl
theorem mX1_setRow_w1 : Cond.fieldLink RX1 9 "QuarterMasks$Grid" "rows" "[I" ∈ wsX1_setRow := List.mem_of_getElem? (i := 1) rfl
theorem iX1_setRow_1 : ∀ w ∈ wsX10, w ∈ wsX1_setRow := fun w h => List.mem_cons_of_mem _ (List.mem_append_right _ h)
theorem mX1_setRow_w2 : Cond.constant RX1 19 (65535) ∈ wsX1_setRow := List.mem_of_getElem? (i := 2) rfl
def wp_Gr_setRow (t_rows : IA) (a1 : Int32) (a2 : Int32) (Q : IA → Prop) : Prop :=
  wp_Qm_within a1 16 (fun r_1 => (r_1 = 0 → (Q t_rows)) ∧ (¬ r_1 = 0 → (vp_in a1 16 ∧ (∀ f_rows_1 : IA, f_rows_1 = upd t_rows a1.toNatClampNeg (a2 &&& 65535) → (Q f_rows_1)))))
set_option maxHeartbeats 4000000 in
theorem c_Gr_setRow (l : Launch) (G : GG) (ad : Nat → Nat) (Wd : IA → va_W) (tb : Nat)  (hT : gW G ad Wd tb) (t_rows : IA) (a1 : Int32) (a2 : Int32) {Q : IA → Prop} (h : wp_Gr_setRow t_rows a1 a2 Q) : qm_MV l yX1_setRow wsX1_setRow rmX1_setRow G [.ref (ad tb), .int a1, .int a2] (Wd t_rows) (fun (u : IA) => Q u) (fun (u : IA) => Wd u) := by
  refine qm_mkV (cc := cX1_setRow) (maxL := 3) (by decide) rfl (Nat.le_of_ble_eq_true rfl) ?_
  intro X C hret
  replace C : qm_C G 3 X cX1_setRow wsX1_setRow RX1 := C
  refine v_lv (lv' := [(0, .ref (ad tb)), (1, .int a1), (2, .int a2)]) rfl ?_
  unfold wp_Gr_setRow at h
  refine v_iload_n C dX1_setRow_0 rfl 1 rfl ?_
  refine v_bipush C 16 dX1_setRow_1 (by decide) ?_
  refine v_callSNi C (c_Qm_within l G (Wd t_rows) a1 16 h) gX1_setRow_X5_within_n15 rfl (fun _ h => h.1) mX1_setRow_w4 mX1_setRow_w3 kX5_within ⟨rfl, rfl⟩ ⟨Nat.le_of_ble_eq_true rfl, Nat.le_of_ble_eq_true rfl⟩ rfl (Nat.le_of_ble_eq_true rfl) dX1_setRow_3 (fun r_1 _ h => ?_)
  try dsimp only at h
  refine v_if_eq C 19 dX1_setRow_6 (by decide) (fun c_1 => ?_) (fun c_1 => ?_)
  · replace h := h.1 c_1
    exact hret _ _ _ t_rows h rfl dX1_setRow_19
  · replace h := h.2 c_1
    refine v_aload_n C dX1_setRow_9 rfl 0 rfl ?_
    refine v_get C iX1_setRow_1 tb (hT t_rows).1.1 rfl 0 (by decide) mX1_setRow_w1 rfl rfl dX1_setRow_10 ?_
    refine v_iload_n C dX1_setRow_13 rfl 1 rfl ?_
    refine v_iload_n C dX1_setRow_14 rfl 2 rfl ?_
    refine v_ldc C 65535 mX1_setRow_w2 dX1_setRow_15 ?_
    refine v_iand C dX1_setRow_17 ?_
    obtain ⟨hin_1, h⟩ := h
    obtain ⟨f_rows_1, ef_rows_1⟩ : ∃ y : IA, y = upd t_rows a1.toNatClampNeg (a2 &&& 65535) := ⟨_, rfl⟩
    replace h := h f_rows_1 ef_rows_1
    refine v_iast C (tb + 1) (hT t_rows).1.2 (ws' := Wd f_rows_1) (by subst ef_rows_1; exact ((hT t_rows).2 _)) hin_1 dX1_setRow_18 ?_
    exact hret _ _ _ f_rows_1 h rfl dX1_setRow_19
-- QuarterMasks$Grid.isDark
def rmX1_isDark : Room := { frames := 1, cells := 0, slots := 0, locals := 40 }
theorem kX1_isDark : yX1_isDark.cls = RX1 ∧ yX1_isDark.cls ≠ "java/lang/invoke/MethodHandle" ∧ yX1_isDark.cls ≠ "java/lang/invoke/VarHandle" ∧ (parseMethodDescriptor yX1_isDark.desc).map (fun d => d.parameters.length) = some 2 := by decide +kernel
theorem mX1_isDark_w1 : Cond.fieldLink RX1 9 "QuarterMasks$Grid" "rows" "[I" ∈ wsX1_isDark := List.mem_of_getElem? (i := 1) rfl
theorem iX1_isDark_1 : ∀ w ∈ wsX10, w ∈ wsX1_isDark := fun w h => List.mem_cons_of_mem _ (List.mem_append_right _ h)
def wp_Gr_isDark (t_rows : IA) (a1 : Int32) (a2 : Int32) (Q : Int32 → Prop) : Prop :=
  (a1 < 0 → (Q 0)) ∧ (¬ a1 < 0 → ((16 ≤ a1 → (Q 0)) ∧ (¬ 16 ≤ a1 → ((a2 < 0 → (Q 0)) ∧ (¬ a2 < 0 → ((16 ≤ a2 → (Q 0)) ∧ (¬ 16 ≤ a2 → (vp_in a2 16 ∧ ((((jush (t_rows a2.toNatClampNeg) a1) &&& 1) = 0 → (Q 0)) ∧ (¬ ((jush (t_rows a2.toNatClampNeg) a1) &&& 1) = 0 → (Q 1)))))))))))
set_option maxHeartbeats 4000000 in
theorem c_Gr_isDark (l : Launch) (G : GG) (ad : Nat → Nat) (ws : va_W) (tb : Nat) {t_rows : IA} (hT : gR G ad ws tb t_rows)  (a1 : Int32) (a2 : Int32) {Q : Int32 → Prop} (h : wp_Gr_isDark t_rows a1 a2 Q) : qm_MI l yX1_isDark wsX1_isDark rmX1_isDark G [.ref (ad tb), .int a1, .int a2] (ws) (fun (r : Int32) (_ : Unit) => Q r) (fun (_ : Unit) => ws) := by
  refine qm_mkZ (cc := cX1_isDark) (maxL := 3) (by decide) rfl (Nat.le_of_ble_eq_true rfl) ?_
  intro X C hret
  replace C : qm_C G 3 X cX1_isDark wsX1_isDark RX1 := C
  refine v_lv (lv' := [(0, .ref (ad tb)), (1, .int a1), (2, .int a2)]) rfl ?_
  unfold wp_Gr_isDark at h
  refine v_iload_n C dX1_isDark_0 rfl 1 rfl ?_
  refine v_if_lt C 37 dX1_isDark_1 (by decide) (fun c_5 => ?_) (fun c_5 => ?_)
  · replace h := h.1 c_5
    refine v_iconst C 0 dX1_isDark_37 (by decide) ?_
    exact hret _ _ _ 0 () h rfl rfl dX1_isDark_38
  · replace h := h.2 c_5
    refine v_iload_n C dX1_isDark_4 rfl 1 rfl ?_
    refine v_bipush C 16 dX1_isDark_5 (by decide) ?_
    refine v_icmp_ge C 37 dX1_isDark_7 (by decide) (fun c_4 => ?_) (fun c_4 => ?_)
    · replace h := h.1 c_4
      refine v_iconst C 0 dX1_isDark_37 (by decide) ?_
      exact hret _ _ _ 0 () h rfl rfl dX1_isDark_38
    · replace h := h.2 c_4
      refine v_iload_n C dX1_isDark_10 rfl 2 rfl ?_
      refine v_if_lt C 37 dX1_isDark_11 (by decide) (fun c_3 => ?_) (fun c_3 => ?_)
      · replace h := h.1 c_3
        refine v_iconst C 0 dX1_isDark_37 (by decide) ?_
        exact hret _ _ _ 0 () h rfl rfl dX1_isDark_38
      · replace h := h.2 c_3
        refine v_iload_n C dX1_isDark_14 rfl 2 rfl ?_
        refine v_bipush C 16 dX1_isDark_15 (by decide) ?_
        refine v_icmp_ge C 37 dX1_isDark_17 (by decide) (fun c_2 => ?_) (fun c_2 => ?_)
        · replace h := h.1 c_2
          refine v_iconst C 0 dX1_isDark_37 (by decide) ?_
          exact hret _ _ _ 0 () h rfl rfl dX1_isDark_38
        · replace h := h.2 c_2
          refine v_aload_n C dX1_isDark_20 rfl 0 rfl ?_
          refine v_get C iX1_isDark_1 tb hT.1 rfl 0 (by decide) mX1_isDark_w1 rfl rfl dX1_isDark_21 ?_
          refine v_iload_n C dX1_isDark_24 rfl 2 rfl ?_
          obtain ⟨hin_1, h⟩ := h
          refine v_iald C (tb + 1) hT.2 hin_1 dX1_isDark_25 ?_
          refine v_iload_n C dX1_isDark_26 rfl 1 rfl ?_
          refine v_iushr C dX1_isDark_27 ?_
          refine v_iconst C 1 dX1_isDark_28 (by decide) ?_
          refine v_iand C dX1_isDark_29 ?_
          refine v_if_eq C 37 dX1_isDark_30 (by decide) (fun c_1 => ?_) (fun c_1 => ?_)
          · replace h := h.1 c_1
            refine v_iconst C 0 dX1_isDark_37 (by decide) ?_
            exact hret _ _ _ 0 () h rfl rfl dX1_isDark_38
          · replace h := h.2 c_1
            refine v_iconst C 1 dX1_isDark_33 (by decide) ?_
            refine v_goto C 38 dX1_isDark_34 (by decide) ?_
            exact hret _ _ _ 1 () h rfl rfl dX1_isDark_38
-- QuarterMasks$Grid.flip
def rmX1_flip : Room := { frames := 3, cells := 0, slots := 0, locals := 83 }
theorem kX1_flip : yX1_flip.cls = RX1 ∧ yX1_flip.cls ≠ "java/lang/invoke/MethodHandle" ∧ yX1_flip.cls ≠ "java/lang/invoke/VarHandle" ∧ (parseMethodDescriptor yX1_flip.desc).map (fun d => d.parameters.length) = some 2 := by decide +kernel
def wp_Gr_flip (t_rows : IA) (a1 : Int32) (a2 : Int32) (Q : IA → Prop) : Prop :=
  wp_Gr_row t_rows a2 (fun r_1 => wp_Gr_setRow t_rows a2 (r_1 ^^^ (jshl 1 a1)) (fun m_rows_1 => Q m_rows_1))
set_option maxHeartbeats 4000000 in
theorem c_Gr_flip (l : Launch) (G : GG) (ad : Nat → Nat) (Wd : IA → va_W) (tb : Nat)  (hT : gW G ad Wd tb) (t_rows : IA) (a1 : Int32) (a2 : Int32) {Q : IA → Prop} (h : wp_Gr_flip t_rows a1 a2 Q) : qm_MV l yX1_flip wsX1_flip rmX1_flip G [.ref (ad tb), .int a1, .int a2] (Wd t_rows) (fun (u : IA) => Q u) (fun (u : IA) => Wd u) := by
  refine qm_mkV (cc := cX1_flip) (maxL := 3) (by decide) rfl (Nat.le_of_ble_eq_true rfl) ?_
  intro X C hret
  replace C : qm_C G 3 X cX1_flip wsX1_flip RX1 := C
  refine v_lv (lv' := [(0, .ref (ad tb)), (1, .int a1), (2, .int a2)]) rfl ?_
  unfold wp_Gr_flip at h
  refine v_aload_n C dX1_flip_0 rfl 0 rfl ?_
  refine v_iload_n C dX1_flip_1 rfl 2 rfl ?_
  refine v_aload_n C dX1_flip_2 rfl 0 rfl ?_
  refine v_iload_n C dX1_flip_3 rfl 2 rfl ?_
  refine v_callVi C (c_Gr_row l G ad (Wd t_rows) tb (hT t_rows).1  a2 h) tb (hT t_rows).1.1 rfl gX1_flip_X1_row rfl kX1_row ⟨rfl, rfl⟩ ⟨Nat.le_of_ble_eq_true rfl, Nat.le_of_ble_eq_true rfl⟩ rfl (Nat.le_of_ble_eq_true rfl) dX1_flip_4 (fun r_1 _ h => ?_)
  try dsimp only at h
  refine v_iconst C 1 dX1_flip_7 (by decide) ?_
  refine v_iload_n C dX1_flip_8 rfl 1 rfl ?_
  refine v_ishl C dX1_flip_9 ?_
  refine v_ixor C dX1_flip_10 ?_
  refine v_callVv C (c_Gr_setRow l G ad (fun y0 => Wd y0) tb hT t_rows a2 (r_1 ^^^ (jshl 1 a1)) h) tb (hT t_rows).1.1 rfl gX1_flip_X1_setRow rfl kX1_setRow ⟨rfl, rfl⟩ ⟨Nat.le_of_ble_eq_true rfl, Nat.le_of_ble_eq_true rfl⟩ rfl (Nat.le_of_ble_eq_true rfl) dX1_flip_11 (fun m_rows_1 h => ?_)
  try dsimp only at h
  refine v_world (ws' := Wd m_rows_1) rfl ?_
  exact hret _ _ _ m_rows_1 h rfl dX1_flip_14
-- QuarterMasks$Grid.paint
def rmX1_paint : Room := { frames := 3, cells := 0, slots := 0, locals := 83 }
theorem kX1_paint : yX1_paint.cls = RX1 ∧ yX1_paint.cls ≠ "java/lang/invoke/MethodHandle" ∧ yX1_paint.cls ≠ "java/lang/invoke/VarHandle" ∧ (parseMethodDescriptor yX1_paint.desc).map (fun d => d.parameters.length) = some 5 := by decide +kernel
def wj_Gr_paint_60 (x7_1 : Int32) (trows_1 : IA) (Kh_1 : Int32 → IA → Prop) (t_1 : Int32) : Prop :=
  wp_Gr_setRow trows_1 x7_1 t_1 (fun m_rows_1 => Kh_1 (x7_1 + 1) m_rows_1)
def wl_Gr_paint_12 (a2 : Int32) (a4 : Int32) (a5 : Int32) (Q : IA → Prop) (x6_1 : Int32) : Nat → Int32 → IA → Prop
  | 0, _, _ => False
  | n + 1, x7_1, trows_1 => ((a2 + a4) ≤ x7_1 → (Q trows_1)) ∧ (¬ (a2 + a4) ≤ x7_1 → ((16 ≤ x7_1 → (Q trows_1)) ∧ (¬ 16 ≤ x7_1 → (jn (wj_Gr_paint_60 x7_1 trows_1 (wl_Gr_paint_12 a2 a4 a5 Q x6_1 n)) (fun K_1 : Int32 → Prop => (a5 = 1 → (wp_Gr_row trows_1 x7_1 (fun r_2 => K_1 (r_2 ||| x6_1)))) ∧ (¬ a5 = 1 → (wp_Gr_row trows_1 x7_1 (fun r_1 => K_1 (r_1 &&& (x6_1 ^^^ (-1)))))))))))
def wp_Gr_paint (t_rows : IA) (a1 : Int32) (a2 : Int32) (a3 : Int32) (a4 : Int32) (a5 : Int32) (Q : IA → Prop) : Prop :=
  ∀ x6_1 : Int32, x6_1 = (jshl ((jshl 1 a3) - 1) a1) → (∃ k_1 : Nat, wl_Gr_paint_12 a2 a4 a5 Q x6_1 k_1 a2 t_rows)
set_option maxHeartbeats 4000000 in
theorem c_Gr_paint (l : Launch) (G : GG) (ad : Nat → Nat) (Wd : IA → va_W) (tb : Nat)  (hT : gW G ad Wd tb) (t_rows : IA) (a1 : Int32) (a2 : Int32) (a3 : Int32) (a4 : Int32) (a5 : Int32) {Q : IA → Prop} (h : wp_Gr_paint t_rows a1 a2 a3 a4 a5 Q) : qm_MV l yX1_paint wsX1_paint rmX1_paint G [.ref (ad tb), .int a1, .int a2, .int a3, .int a4, .int a5] (Wd t_rows) (fun (u : IA) => Q u) (fun (u : IA) => Wd u) := by
  refine qm_mkV (cc := cX1_paint) (maxL := 8) (by decide) rfl (Nat.le_of_ble_eq_true rfl) ?_
  intro X C hret
  replace C : qm_C G 8 X cX1_paint wsX1_paint RX1 := C
  refine v_lv (lv' := [(0, .ref (ad tb)), (1, .int a1), (2, .int a2), (3, .int a3), (4, .int a4), (5, .int a5)]) rfl ?_
  unfold wp_Gr_paint at h
  refine v_iconst C 1 dX1_paint_0 (by decide) ?_
  refine v_iload_n C dX1_paint_1 rfl 3 rfl ?_
  refine v_ishl C dX1_paint_2 ?_
  refine v_iconst C 1 dX1_paint_3 (by decide) ?_
  refine v_isub C dX1_paint_4 ?_
  refine v_iload_n C dX1_paint_5 rfl 1 rfl ?_
  refine v_ishl C dX1_paint_6 ?_
  refine v_topi (fun x6_1 ex6_1 => ?_)
  replace h := h x6_1 ex6_1
  refine v_istore C [(6, .int x6_1), (0, .ref (ad tb)), (1, .int a1), (2, .int a2), (3, .int a3), (4, .int a4), (5, .int a5)] dX1_paint_7 (by decide) rfl ?_
  refine v_iload_n C dX1_paint_9 rfl 3 rfl ?_
  refine v_istore C [(7, .int a2), (6, .int x6_1), (0, .ref (ad tb)), (1, .int a1), (2, .int a2), (3, .int a3), (4, .int a4), (5, .int a5)] dX1_paint_10 (by decide) rfl ?_
  have hl_1 : ∀ n_1 : Nat, ∀ (x7_1 : Int32) (trows_1 : IA), wl_Gr_paint_12 a2 a4 a5 Q x6_1 n_1 x7_1 trows_1 → qm_V l G rmX1_paint 8 X (Wd trows_1) [(7, .int x7_1), (6, .int x6_1), (0, .ref (ad tb)), (1, .int a1), (2, .int a2), (3, .int a3), (4, .int a4), (5, .int a5)] 12 [] := by
    intro n_1
    induction n_1 with
    | zero =>
      intro x7_1 trows_1 h
      exact False.elim h
    | succ n_1 ih_1 =>
      intro x7_1 trows_1 h
      rw [wl_Gr_paint_12] at h
      refine v_iload C dX1_paint_12 0 rfl ?_
      refine v_iload_n C dX1_paint_14 rfl 4 rfl ?_
      refine v_iload C dX1_paint_15 6 rfl ?_
      refine v_iadd C dX1_paint_17 ?_
      refine v_icmp_ge C 69 dX1_paint_18 (by decide) (fun c_3 => ?_) (fun c_3 => ?_)
      · replace h := h.1 c_3
        exact hret _ _ _ trows_1 h rfl dX1_paint_69
      · replace h := h.2 c_3
        refine v_iload C dX1_paint_21 0 rfl ?_
        refine v_bipush C 16 dX1_paint_23 (by decide) ?_
        refine v_icmp_ge C 69 dX1_paint_25 (by decide) (fun c_2 => ?_) (fun c_2 => ?_)
        · replace h := h.1 c_2
          exact hret _ _ _ trows_1 h rfl dX1_paint_69
        · replace h := h.2 c_2
          refine v_aload_n C dX1_paint_28 rfl 2 rfl ?_
          refine v_iload C dX1_paint_29 0 rfl ?_
          refine v_iload C dX1_paint_31 7 rfl ?_
          refine v_iconst C 1 dX1_paint_33 (by decide) ?_
          have hJ_1 : ∀ (t_1 : Int32), (wj_Gr_paint_60 x7_1 trows_1 (wl_Gr_paint_12 a2 a4 a5 Q x6_1 n_1)) t_1 → qm_V l G rmX1_paint 8 X (Wd trows_1) [(7, .int x7_1), (6, .int x6_1), (0, .ref (ad tb)), (1, .int a1), (2, .int a2), (3, .int a3), (4, .int a4), (5, .int a5)] 60 [.int t_1, .int x7_1, .ref (ad tb)] := by
            intro t_1 h
            unfold wj_Gr_paint_60 at h
            refine v_callVv C (c_Gr_setRow l G ad (fun y0 => Wd y0) tb hT trows_1 x7_1 t_1 h) tb (hT trows_1).1.1 rfl gX1_paint_X1_setRow rfl kX1_setRow ⟨rfl, rfl⟩ ⟨Nat.le_of_ble_eq_true rfl, Nat.le_of_ble_eq_true rfl⟩ rfl (Nat.le_of_ble_eq_true rfl) dX1_paint_60 (fun m_rows_1 h => ?_)
            try dsimp only at h
            refine v_world (ws' := Wd m_rows_1) rfl ?_
            refine v_iinc C (x7_1 + 1) 0 [(7, .int (x7_1 + 1)), (6, .int x6_1), (0, .ref (ad tb)), (1, .int a1), (2, .int a2), (3, .int a3), (4, .int a4), (5, .int a5)] dX1_paint_63 rfl rfl (by decide) rfl ?_
            refine v_goto C 12 dX1_paint_66 (by decide) ?_
            exact ih_1 (x7_1 + 1) m_rows_1 h
          replace h := jn_use h
          try dsimp only at h
          refine v_icmp_ne C 49 dX1_paint_34 (by decide) (fun c_1 => ?_) (fun c_1 => ?_)
          · replace h := h.2 c_1
            refine v_aload_n C dX1_paint_49 rfl 2 rfl ?_
            refine v_iload C dX1_paint_50 0 rfl ?_
            refine v_callVi C (c_Gr_row l G ad (Wd trows_1) tb (hT trows_1).1  x7_1 h) tb (hT trows_1).1.1 rfl gX1_paint_X1_row rfl kX1_row ⟨rfl, rfl⟩ ⟨Nat.le_of_ble_eq_true rfl, Nat.le_of_ble_eq_true rfl⟩ rfl (Nat.le_of_ble_eq_true rfl) dX1_paint_52 (fun r_1 _ h => ?_)
            try dsimp only at h
            refine v_iload C dX1_paint_55 1 rfl ?_
            refine v_iconst C (-1) dX1_paint_57 (by decide) ?_
            refine v_ixor C dX1_paint_58 ?_
            refine v_iand C dX1_paint_59 ?_
            exact hJ_1 (r_1 &&& (x6_1 ^^^ (-1))) h
          · replace h := h.1 c_1
            refine v_aload_n C dX1_paint_37 rfl 2 rfl ?_
            refine v_iload C dX1_paint_38 0 rfl ?_
            refine v_callVi C (c_Gr_row l G ad (Wd trows_1) tb (hT trows_1).1  x7_1 h) tb (hT trows_1).1.1 rfl gX1_paint_X1_row rfl kX1_row ⟨rfl, rfl⟩ ⟨Nat.le_of_ble_eq_true rfl, Nat.le_of_ble_eq_true rfl⟩ rfl (Nat.le_of_ble_eq_true rfl) dX1_paint_40 (fun r_2 _ h => ?_)
            try dsimp only at h
            refine v_iload C dX1_paint_43 1 rfl ?_
            refine v_ior C dX1_paint_45 ?_
            refine v_goto C 60 dX1_paint_46 (by decide) ?_
            exact hJ_1 (r_2 ||| x6_1) h
  obtain ⟨k_1, h⟩ := h
  exact hl_1 k_1 a2 t_rows h
-- QuarterMasks$Grid.take
def rmX1_take : Room := { frames := 1, cells := 0, slots := 0, locals := 40 }
theorem kX1_take : yX1_take.cls = RX1 ∧ yX1_take.cls ≠ "java/lang/invoke/MethodHandle" ∧ yX1_take.cls ≠ "java/lang/invoke/VarHandle" ∧ (parseMethodDescriptor yX1_take.desc).map (fun d => d.parameters.length) = some 1 := by decide +kernel
theorem mX1_take_w1 : Cond.fieldLink RX1 9 "QuarterMasks$Grid" "rows" "[I" ∈ wsX1_take := List.mem_of_getElem? (i := 1) rfl
theorem iX1_take_1 : ∀ w ∈ wsX10, w ∈ wsX1_take := fun w h => List.mem_cons_of_mem _ (List.mem_append_right _ h)
def wl_Gr_take_2 (o_rows : IA) (Q : IA → Prop) : Nat → Int32 → IA → Prop
  | 0, _, _ => False
  | n + 1, x2_1, trows_1 => (16 ≤ x2_1 → (Q trows_1)) ∧ (¬ 16 ≤ x2_1 → (vp_in x2_1 16 ∧ (vp_in x2_1 16 ∧ (∀ f_rows_1 : IA, f_rows_1 = upd trows_1 x2_1.toNatClampNeg (o_rows x2_1.toNatClampNeg) → ((wl_Gr_take_2 o_rows Q n) (x2_1 + 1) f_rows_1)))))
def wp_Gr_take (t_rows : IA) (o_rows : IA)  (Q : IA → Prop) : Prop :=
  ∃ k_1 : Nat, wl_Gr_take_2 o_rows Q k_1 0 t_rows
set_option maxHeartbeats 4000000 in
theorem c_Gr_take (l : Launch) (G : GG) (ad : Nat → Nat) (Wd : IA → va_W) (tb ob : Nat) {o_rows : IA} (hT : gW G ad Wd tb) (hO : ∀ (t_rows : IA), gR G ad (Wd t_rows) ob o_rows) (t_rows : IA)  {Q : IA → Prop} (h : wp_Gr_take t_rows o_rows Q) : qm_MV l yX1_take wsX1_take rmX1_take G [.ref (ad tb), .ref (ad ob)] (Wd t_rows) (fun (u : IA) => Q u) (fun (u : IA) => Wd u) := by
  refine qm_mkV (cc := cX1_take) (maxL := 3) (by decide) rfl (Nat.le_of_ble_eq_true rfl) ?_
  intro X C hret
  replace C : qm_C G 3 X cX1_take wsX1_take RX1 := C
  refine v_lv (lv' := [(0, .ref (ad tb)), (1, .ref (ad ob))]) rfl ?_
  unfold wp_Gr_take at h
  refine v_iconst C 0 dX1_take_0 (by decide) ?_
  refine v_istore_n C [(2, .int 0), (0, .ref (ad tb)), (1, .ref (ad ob))] dX1_take_1 rfl (by decide) rfl ?_
  have hl_1 : ∀ n_1 : Nat, ∀ (x2_1 : Int32) (trows_1 : IA), wl_Gr_take_2 o_rows Q n_1 x2_1 trows_1 → qm_V l G rmX1_take 3 X (Wd trows_1) [(2, .int x2_1), (0, .ref (ad tb)), (1, .ref (ad ob))] 2 [] := by
    intro n_1
    induction n_1 with
    | zero =>
      intro x2_1 trows_1 h
      exact False.elim h
    | succ n_1 ih_1 =>
      intro x2_1 trows_1 h
      rw [wl_Gr_take_2] at h
      refine v_iload_n C dX1_take_2 rfl 0 rfl ?_
      refine v_bipush C 16 dX1_take_3 (by decide) ?_
      refine v_icmp_ge C 26 dX1_take_5 (by decide) (fun c_1 => ?_) (fun c_1 => ?_)
      · replace h := h.1 c_1
        exact hret _ _ _ trows_1 h rfl dX1_take_26
      · replace h := h.2 c_1
        refine v_aload_n C dX1_take_8 rfl 1 rfl ?_
        refine v_get C iX1_take_1 tb (hT trows_1).1.1 rfl 0 (by decide) mX1_take_w1 rfl rfl dX1_take_9 ?_
        refine v_iload_n C dX1_take_12 rfl 0 rfl ?_
        refine v_aload_n C dX1_take_13 rfl 2 rfl ?_
        refine v_get C iX1_take_1 ob (hO trows_1).1 rfl 0 (by decide) mX1_take_w1 rfl rfl dX1_take_14 ?_
        refine v_iload_n C dX1_take_17 rfl 0 rfl ?_
        obtain ⟨hin_1, h⟩ := h
        refine v_iald C (ob + 1) (hO trows_1).2 hin_1 dX1_take_18 ?_
        obtain ⟨hin_2, h⟩ := h
        obtain ⟨f_rows_1, ef_rows_1⟩ : ∃ y : IA, y = upd trows_1 x2_1.toNatClampNeg (o_rows x2_1.toNatClampNeg) := ⟨_, rfl⟩
        replace h := h f_rows_1 ef_rows_1
        refine v_iast C (tb + 1) (hT trows_1).1.2 (ws' := Wd f_rows_1) (by subst ef_rows_1; exact ((hT trows_1).2 _)) hin_2 dX1_take_19 ?_
        refine v_iinc C (x2_1 + 1) 0 [(2, .int (x2_1 + 1)), (0, .ref (ad tb)), (1, .ref (ad ob))] dX1_take_20 rfl rfl (by decide) rfl ?_
        refine v_goto C 2 dX1_take_23 (by decide) ?_
        exact ih_1 (x2_1 + 1) f_rows_1 h
  obtain ⟨k_1, h⟩ := h
  exact hl_1 k_1 0 t_rows h
-- QuarterMasks$Grid.takeTurnedOver
def rmX1_takeTurnedOver : Room := { frames := 1, cells := 0, slots := 0, locals := 40 }
theorem kX1_takeTurnedOver : yX1_takeTurnedOver.cls = RX1 ∧ yX1_takeTurnedOver.cls ≠ "java/lang/invoke/MethodHandle" ∧ yX1_takeTurnedOver.cls ≠ "java/lang/invoke/VarHandle" ∧ (parseMethodDescriptor yX1_takeTurnedOver.desc).map (fun d => d.parameters.length) = some 1 := by decide +kernel
theorem mX1_takeTurnedOver_w1 : Cond.fieldLink RX1 9 "QuarterMasks$Grid" "rows" "[I" ∈ wsX1_takeTurnedOver := List.mem_of_getElem? (i := 1) rfl
theorem iX1_takeTurnedOver_1 : ∀ w ∈ wsX10, w ∈ wsX1_takeTurnedOver := fun w h => List.mem_cons_of_mem _ (List.mem_append_right _ h)
theorem mX1_takeTurnedOver_w2 : Cond.constant RX1 19 (65535) ∈ wsX1_takeTurnedOver := List.mem_of_getElem? (i := 2) rfl
def wl_Gr_takeTurnedOver_2 (o_rows : IA) (Q : IA → Prop) : Nat → Int32 → IA → Prop
  | 0, _, _ => False
  | n + 1, x2_1, trows_1 => (16 ≤ x2_1 → (Q trows_1)) ∧ (¬ 16 ≤ x2_1 → (vp_in x2_1 16 ∧ (vp_in x2_1 16 ∧ (∀ f_rows_1 : IA, f_rows_1 = upd trows_1 x2_1.toNatClampNeg ((o_rows x2_1.toNatClampNeg) ^^^ 65535) → ((wl_Gr_takeTurnedOver_2 o_rows Q n) (x2_1 + 1) f_rows_1)))))
def wp_Gr_takeTurnedOver (t_rows : IA) (o_rows : IA)  (Q : IA → Prop) : Prop :=
  ∃ k_1 : Nat, wl_Gr_takeTurnedOver_2 o_rows Q k_1 0 t_rows
set_option maxHeartbeats 4000000 in
theorem c_Gr_takeTurnedOver (l : Launch) (G : GG) (ad : Nat → Nat) (Wd : IA → va_W) (tb ob : Nat) {o_rows : IA} (hT : gW G ad Wd tb) (hO : ∀ (t_rows : IA), gR G ad (Wd t_rows) ob o_rows) (t_rows : IA)  {Q : IA → Prop} (h : wp_Gr_takeTurnedOver t_rows o_rows Q) : qm_MV l yX1_takeTurnedOver wsX1_takeTurnedOver rmX1_takeTurnedOver G [.ref (ad tb), .ref (ad ob)] (Wd t_rows) (fun (u : IA) => Q u) (fun (u : IA) => Wd u) := by
  refine qm_mkV (cc := cX1_takeTurnedOver) (maxL := 3) (by decide) rfl (Nat.le_of_ble_eq_true rfl) ?_
  intro X C hret
  replace C : qm_C G 3 X cX1_takeTurnedOver wsX1_takeTurnedOver RX1 := C
  refine v_lv (lv' := [(0, .ref (ad tb)), (1, .ref (ad ob))]) rfl ?_
  unfold wp_Gr_takeTurnedOver at h
  refine v_iconst C 0 dX1_takeTurnedOver_0 (by decide) ?_
  refine v_istore_n C [(2, .int 0), (0, .ref (ad tb)), (1, .ref (ad ob))] dX1_takeTurnedOver_1 rfl (by decide) rfl ?_
  have hl_1 : ∀ n_1 : Nat, ∀ (x2_1 : Int32) (trows_1 : IA), wl_Gr_takeTurnedOver_2 o_rows Q n_1 x2_1 trows_1 → qm_V l G rmX1_takeTurnedOver 3 X (Wd trows_1) [(2, .int x2_1), (0, .ref (ad tb)), (1, .ref (ad ob))] 2 [] := by
    intro n_1
    induction n_1 with
    | zero =>
      intro x2_1 trows_1 h
      exact False.elim h
    | succ n_1 ih_1 =>
      intro x2_1 trows_1 h
      rw [wl_Gr_takeTurnedOver_2] at h
      refine v_iload_n C dX1_takeTurnedOver_2 rfl 0 rfl ?_
      refine v_bipush C 16 dX1_takeTurnedOver_3 (by decide) ?_
      refine v_icmp_ge C 29 dX1_takeTurnedOver_5 (by decide) (fun c_1 => ?_) (fun c_1 => ?_)
      · replace h := h.1 c_1
        exact hret _ _ _ trows_1 h rfl dX1_takeTurnedOver_29
      · replace h := h.2 c_1
        refine v_aload_n C dX1_takeTurnedOver_8 rfl 1 rfl ?_
        refine v_get C iX1_takeTurnedOver_1 tb (hT trows_1).1.1 rfl 0 (by decide) mX1_takeTurnedOver_w1 rfl rfl dX1_takeTurnedOver_9 ?_
        refine v_iload_n C dX1_takeTurnedOver_12 rfl 0 rfl ?_
        refine v_aload_n C dX1_takeTurnedOver_13 rfl 2 rfl ?_
        refine v_get C iX1_takeTurnedOver_1 ob (hO trows_1).1 rfl 0 (by decide) mX1_takeTurnedOver_w1 rfl rfl dX1_takeTurnedOver_14 ?_
        refine v_iload_n C dX1_takeTurnedOver_17 rfl 0 rfl ?_
        obtain ⟨hin_1, h⟩ := h
        refine v_iald C (ob + 1) (hO trows_1).2 hin_1 dX1_takeTurnedOver_18 ?_
        refine v_ldc C 65535 mX1_takeTurnedOver_w2 dX1_takeTurnedOver_19 ?_
        refine v_ixor C dX1_takeTurnedOver_21 ?_
        obtain ⟨hin_2, h⟩ := h
        obtain ⟨f_rows_1, ef_rows_1⟩ : ∃ y : IA, y = upd trows_1 x2_1.toNatClampNeg ((o_rows x2_1.toNatClampNeg) ^^^ 65535) := ⟨_, rfl⟩
        replace h := h f_rows_1 ef_rows_1
        refine v_iast C (tb + 1) (hT trows_1).1.2 (ws' := Wd f_rows_1) (by subst ef_rows_1; exact ((hT trows_1).2 _)) hin_2 dX1_takeTurnedOver_22 ?_
        refine v_iinc C (x2_1 + 1) 0 [(2, .int (x2_1 + 1)), (0, .ref (ad tb)), (1, .ref (ad ob))] dX1_takeTurnedOver_23 rfl rfl (by decide) rfl ?_
        refine v_goto C 2 dX1_takeTurnedOver_26 (by decide) ?_
        exact ih_1 (x2_1 + 1) f_rows_1 h
  obtain ⟨k_1, h⟩ := h
  exact hl_1 k_1 0 t_rows h
-- QuarterMasks$Grid.takeTurnedRight
def rmX1_takeTurnedRight : Room := { frames := 2, cells := 0, slots := 0, locals := 62 }
theorem kX1_takeTurnedRight : yX1_takeTurnedRight.cls = RX1 ∧ yX1_takeTurnedRight.cls ≠ "java/lang/invoke/MethodHandle" ∧ yX1_takeTurnedRight.cls ≠ "java/lang/invoke/VarHandle" ∧ (parseMethodDescriptor yX1_takeTurnedRight.desc).map (fun d => d.parameters.length) = some 1 := by decide +kernel
theorem mX1_takeTurnedRight_w1 : Cond.fieldLink RX1 9 "QuarterMasks$Grid" "rows" "[I" ∈ wsX1_takeTurnedRight := List.mem_of_getElem? (i := 1) rfl
theorem iX1_takeTurnedRight_1 : ∀ w ∈ wsX10, w ∈ wsX1_takeTurnedRight := fun w h => List.mem_cons_of_mem _ (List.mem_append_right _ h)
def wx_Gr_takeTurnedRight_46 (x2_1 : Int32) (trows_1 : IA) (Kh_1 : Int32 → IA → Prop) (x4_2 : Int32) (x3_2 : Int32) : Prop :=
  vp_in x2_1 16 ∧ (∀ f_rows_1 : IA, f_rows_1 = upd trows_1 x2_1.toNatClampNeg x3_2 → (Kh_1 (x2_1 + 1) f_rows_1))
def wl_Gr_takeTurnedRight_13 (o_rows : IA) (x2_1 : Int32) (Kx_1 : Int32 → Int32 → Prop) : Nat → Int32 → Int32 → Prop
  | 0, _, _ => False
  | n + 1, x4_1, x3_1 => (16 ≤ x4_1 → (Kx_1 x4_1 x3_1)) ∧ (¬ 16 ≤ x4_1 → (wp_Gr_isDark o_rows x2_1 (15 - x4_1) (fun r_1 => jn (fun (x3_3 : Int32) => (wl_Gr_takeTurnedRight_13 o_rows x2_1 Kx_1 n) (x4_1 + 1) x3_3) (fun K_1 : Int32 → Prop => (r_1 = 0 → (K_1 x3_1)) ∧ (¬ r_1 = 0 → (∀ x3_4 : Int32, x3_4 = (x3_1 ||| (jshl 1 x4_1)) → (K_1 x3_4)))))))
def wl_Gr_takeTurnedRight_2 (o_rows : IA) (Q : IA → Prop) : Nat → Int32 → IA → Prop
  | 0, _, _ => False
  | n + 1, x2_1, trows_1 => (16 ≤ x2_1 → (Q trows_1)) ∧ (¬ 16 ≤ x2_1 → (∃ k_1 : Nat, wl_Gr_takeTurnedRight_13 o_rows x2_1 (wx_Gr_takeTurnedRight_46 x2_1 trows_1 (wl_Gr_takeTurnedRight_2 o_rows Q n)) k_1 0 0))
def wp_Gr_takeTurnedRight (t_rows : IA) (o_rows : IA)  (Q : IA → Prop) : Prop :=
  ∃ k_2 : Nat, wl_Gr_takeTurnedRight_2 o_rows Q k_2 0 t_rows
set_option maxHeartbeats 4000000 in
theorem c_Gr_takeTurnedRight (l : Launch) (G : GG) (ad : Nat → Nat) (Wd : IA → va_W) (tb ob : Nat) {o_rows : IA} (hT : gW G ad Wd tb) (hO : ∀ (t_rows : IA), gR G ad (Wd t_rows) ob o_rows) (t_rows : IA)  {Q : IA → Prop} (h : wp_Gr_takeTurnedRight t_rows o_rows Q) : qm_MV l yX1_takeTurnedRight wsX1_takeTurnedRight rmX1_takeTurnedRight G [.ref (ad tb), .ref (ad ob)] (Wd t_rows) (fun (u : IA) => Q u) (fun (u : IA) => Wd u) := by
  refine qm_mkV (cc := cX1_takeTurnedRight) (maxL := 5) (by decide) rfl (Nat.le_of_ble_eq_true rfl) ?_
  intro X C hret
  replace C : qm_C G 5 X cX1_takeTurnedRight wsX1_takeTurnedRight RX1 := C
  refine v_lv (lv' := [(0, .ref (ad tb)), (1, .ref (ad ob))]) rfl ?_
  unfold wp_Gr_takeTurnedRight at h
  refine v_iconst C 0 dX1_takeTurnedRight_0 (by decide) ?_
  refine v_istore_n C [(2, .int 0), (0, .ref (ad tb)), (1, .ref (ad ob))] dX1_takeTurnedRight_1 rfl (by decide) rfl ?_
  have hl_2 : ∀ n_1 : Nat, ∀ (x2_1 : Int32) (trows_1 : IA), wl_Gr_takeTurnedRight_2 o_rows Q n_1 x2_1 trows_1 → qm_V l G rmX1_takeTurnedRight 5 X (Wd trows_1) [(2, .int x2_1), (0, .ref (ad tb)), (1, .ref (ad ob))] 2 [] := by
    intro n_1
    induction n_1 with
    | zero =>
      intro x2_1 trows_1 h
      exact False.elim h
    | succ n_1 ih_1 =>
      intro x2_1 trows_1 h
      rw [wl_Gr_takeTurnedRight_2] at h
      refine v_iload_n C dX1_takeTurnedRight_2 rfl 0 rfl ?_
      refine v_bipush C 16 dX1_takeTurnedRight_3 (by decide) ?_
      refine v_icmp_ge C 59 dX1_takeTurnedRight_5 (by decide) (fun c_3 => ?_) (fun c_3 => ?_)
      · replace h := h.1 c_3
        exact hret _ _ _ trows_1 h rfl dX1_takeTurnedRight_59
      · replace h := h.2 c_3
        refine v_iconst C 0 dX1_takeTurnedRight_8 (by decide) ?_
        refine v_istore_n C [(3, .int 0), (2, .int x2_1), (0, .ref (ad tb)), (1, .ref (ad ob))] dX1_takeTurnedRight_9 rfl (by decide) rfl ?_
        refine v_iconst C 0 dX1_takeTurnedRight_10 (by decide) ?_
        refine v_istore C [(4, .int 0), (3, .int 0), (2, .int x2_1), (0, .ref (ad tb)), (1, .ref (ad ob))] dX1_takeTurnedRight_11 (by decide) rfl ?_
        have hx_1 : ∀ (x4_2 : Int32) (x3_2 : Int32), (wx_Gr_takeTurnedRight_46 x2_1 trows_1 (wl_Gr_takeTurnedRight_2 o_rows Q n_1)) x4_2 x3_2 → qm_V l G rmX1_takeTurnedRight 5 X (Wd trows_1) [(4, .int x4_2), (3, .int x3_2), (2, .int x2_1), (0, .ref (ad tb)), (1, .ref (ad ob))] 46 [] := by
          intro x4_2 x3_2 h
          unfold wx_Gr_takeTurnedRight_46 at h
          refine v_aload_n C dX1_takeTurnedRight_46 rfl 3 rfl ?_
          refine v_get C iX1_takeTurnedRight_1 tb (hT trows_1).1.1 rfl 0 (by decide) mX1_takeTurnedRight_w1 rfl rfl dX1_takeTurnedRight_47 ?_
          refine v_iload_n C dX1_takeTurnedRight_50 rfl 2 rfl ?_
          refine v_iload_n C dX1_takeTurnedRight_51 rfl 1 rfl ?_
          obtain ⟨hin_1, h⟩ := h
          obtain ⟨f_rows_1, ef_rows_1⟩ : ∃ y : IA, y = upd trows_1 x2_1.toNatClampNeg x3_2 := ⟨_, rfl⟩
          replace h := h f_rows_1 ef_rows_1
          refine v_iast C (tb + 1) (hT trows_1).1.2 (ws' := Wd f_rows_1) (by subst ef_rows_1; exact ((hT trows_1).2 _)) hin_1 dX1_takeTurnedRight_52 ?_
          refine v_iinc C (x2_1 + 1) 2 [(2, .int (x2_1 + 1)), (4, .int x4_2), (3, .int x3_2), (0, .ref (ad tb)), (1, .ref (ad ob))] dX1_takeTurnedRight_53 rfl rfl (by decide) rfl ?_
          refine v_goto C 2 dX1_takeTurnedRight_56 (by decide) ?_
          refine v_perm [0, 3, 4] rfl ?_
          exact ih_1 (x2_1 + 1) f_rows_1 h
        have hl_1 : ∀ n_2 : Nat, ∀ (x4_1 : Int32) (x3_1 : Int32), wl_Gr_takeTurnedRight_13 o_rows x2_1 (wx_Gr_takeTurnedRight_46 x2_1 trows_1 (wl_Gr_takeTurnedRight_2 o_rows Q n_1)) n_2 x4_1 x3_1 → qm_V l G rmX1_takeTurnedRight 5 X (Wd trows_1) [(4, .int x4_1), (3, .int x3_1), (2, .int x2_1), (0, .ref (ad tb)), (1, .ref (ad ob))] 13 [] := by
          intro n_2
          induction n_2 with
          | zero =>
            intro x4_1 x3_1 h
            exact False.elim h
          | succ n_2 ih_2 =>
            intro x4_1 x3_1 h
            rw [wl_Gr_takeTurnedRight_13] at h
            refine v_iload C dX1_takeTurnedRight_13 0 rfl ?_
            refine v_bipush C 16 dX1_takeTurnedRight_15 (by decide) ?_
            refine v_icmp_ge C 46 dX1_takeTurnedRight_17 (by decide) (fun c_2 => ?_) (fun c_2 => ?_)
            · replace h := h.1 c_2
              exact hx_1 x4_1 x3_1 h
            · replace h := h.2 c_2
              refine v_aload_n C dX1_takeTurnedRight_20 rfl 4 rfl ?_
              refine v_iload_n C dX1_takeTurnedRight_21 rfl 2 rfl ?_
              refine v_bipush C 15 dX1_takeTurnedRight_22 (by decide) ?_
              refine v_iload C dX1_takeTurnedRight_24 0 rfl ?_
              refine v_isub C dX1_takeTurnedRight_26 ?_
              refine v_callVi C (c_Gr_isDark l G ad (Wd trows_1) ob (hO trows_1)  x2_1 (15 - x4_1) h) ob (hO trows_1).1 rfl gX1_takeTurnedRight_X1_isDark rfl kX1_isDark ⟨rfl, rfl⟩ ⟨Nat.le_of_ble_eq_true rfl, Nat.le_of_ble_eq_true rfl⟩ rfl (Nat.le_of_ble_eq_true rfl) dX1_takeTurnedRight_27 (fun r_1 _ h => ?_)
              try dsimp only at h
              have hJ_1 : ∀ (x3_3 : Int32), (fun (x3_3 : Int32) => (wl_Gr_takeTurnedRight_13 o_rows x2_1 (wx_Gr_takeTurnedRight_46 x2_1 trows_1 (wl_Gr_takeTurnedRight_2 o_rows Q n_1)) n_2) (x4_1 + 1) x3_3) x3_3 → qm_V l G rmX1_takeTurnedRight 5 X (Wd trows_1) [(4, .int x4_1), (3, .int x3_3), (2, .int x2_1), (0, .ref (ad tb)), (1, .ref (ad ob))] 40 [] := by
                intro x3_3 h
                try dsimp only at h
                refine v_iinc C (x4_1 + 1) 0 [(4, .int (x4_1 + 1)), (3, .int x3_3), (2, .int x2_1), (0, .ref (ad tb)), (1, .ref (ad ob))] dX1_takeTurnedRight_40 rfl rfl (by decide) rfl ?_
                refine v_goto C 13 dX1_takeTurnedRight_43 (by decide) ?_
                exact ih_2 (x4_1 + 1) x3_3 h
              replace h := jn_use h
              try dsimp only at h
              refine v_if_eq C 40 dX1_takeTurnedRight_30 (by decide) (fun c_1 => ?_) (fun c_1 => ?_)
              · replace h := h.1 c_1
                exact hJ_1 x3_1 h
              · replace h := h.2 c_1
                refine v_iload_n C dX1_takeTurnedRight_33 rfl 1 rfl ?_
                refine v_iconst C 1 dX1_takeTurnedRight_34 (by decide) ?_
                refine v_iload C dX1_takeTurnedRight_35 0 rfl ?_
                refine v_ishl C dX1_takeTurnedRight_37 ?_
                refine v_ior C dX1_takeTurnedRight_38 ?_
                refine v_topi (fun x3_4 ex3_4 => ?_)
                replace h := h x3_4 ex3_4
                refine v_istore_n C [(3, .int x3_4), (4, .int x4_1), (2, .int x2_1), (0, .ref (ad tb)), (1, .ref (ad ob))] dX1_takeTurnedRight_39 rfl (by decide) rfl ?_
                refine v_perm [1, 0, 2, 3, 4] rfl ?_
                exact hJ_1 x3_4 h
        obtain ⟨k_1, h⟩ := h
        exact hl_1 k_1 0 0 h
  obtain ⟨k_2, h⟩ := h
  exact hl_2 k_2 0 t_rows h
-- QuarterMasks$Grid.neighboursInRow
def rmX1_neighboursInRow : Room := { frames := 2, cells := 0, slots := 0, locals := 61 }
theorem kX1_neighboursInRow : yX1_neighboursInRow.cls = RX1 ∧ yX1_neighboursInRow.cls ≠ "java/lang/invoke/MethodHandle" ∧ yX1_neighboursInRow.cls ≠ "java/lang/invoke/VarHandle" ∧ (parseMethodDescriptor yX1_neighboursInRow.desc).map (fun d => d.parameters.length) = some 1 := by decide +kernel
theorem mX1_neighboursInRow_w1 : Cond.constant RX1 19 (65535) ∈ wsX1_neighboursInRow := List.mem_of_getElem? (i := 1) rfl
def wp_Gr_neighboursInRow (t_rows : IA) (a1 : Int32) (Q : Int32 → Prop) : Prop :=
  wp_Gr_row t_rows a1 (fun r_1 => wp_Gr_row t_rows a1 (fun r_2 => wp_Gr_row t_rows (a1 - 1) (fun r_3 => wp_Gr_row t_rows (a1 + 1) (fun r_4 => Q (((((jshl r_1 1) ||| (jush r_2 1)) ||| r_3) ||| r_4) &&& 65535)))))
set_option maxHeartbeats 4000000 in
theorem c_Gr_neighboursInRow (l : Launch) (G : GG) (ad : Nat → Nat) (ws : va_W) (tb : Nat) {t_rows : IA} (hT : gR G ad ws tb t_rows)  (a1 : Int32) {Q : Int32 → Prop} (h : wp_Gr_neighboursInRow t_rows a1 Q) : qm_MI l yX1_neighboursInRow wsX1_neighboursInRow rmX1_neighboursInRow G [.ref (ad tb), .int a1] (ws) (fun (r : Int32) (_ : Unit) => Q r) (fun (_ : Unit) => ws) := by
  refine qm_mkI (cc := cX1_neighboursInRow) (maxL := 2) (by decide) rfl (Nat.le_of_ble_eq_true rfl) ?_
  intro X C hret
  replace C : qm_C G 2 X cX1_neighboursInRow wsX1_neighboursInRow RX1 := C
  refine v_lv (lv' := [(0, .ref (ad tb)), (1, .int a1)]) rfl ?_
  unfold wp_Gr_neighboursInRow at h
  refine v_aload_n C dX1_neighboursInRow_0 rfl 0 rfl ?_
  refine v_iload_n C dX1_neighboursInRow_1 rfl 1 rfl ?_
  refine v_callVi C (c_Gr_row l G ad (ws) tb hT  a1 h) tb hT.1 rfl gX1_neighboursInRow_X1_row rfl kX1_row ⟨rfl, rfl⟩ ⟨Nat.le_of_ble_eq_true rfl, Nat.le_of_ble_eq_true rfl⟩ rfl (Nat.le_of_ble_eq_true rfl) dX1_neighboursInRow_2 (fun r_1 _ h => ?_)
  try dsimp only at h
  refine v_iconst C 1 dX1_neighboursInRow_5 (by decide) ?_
  refine v_ishl C dX1_neighboursInRow_6 ?_
  refine v_aload_n C dX1_neighboursInRow_7 rfl 0 rfl ?_
  refine v_iload_n C dX1_neighboursInRow_8 rfl 1 rfl ?_
  refine v_callVi C (c_Gr_row l G ad (ws) tb hT  a1 h) tb hT.1 rfl gX1_neighboursInRow_X1_row rfl kX1_row ⟨rfl, rfl⟩ ⟨Nat.le_of_ble_eq_true rfl, Nat.le_of_ble_eq_true rfl⟩ rfl (Nat.le_of_ble_eq_true rfl) dX1_neighboursInRow_9 (fun r_2 _ h => ?_)
  try dsimp only at h
  refine v_iconst C 1 dX1_neighboursInRow_12 (by decide) ?_
  refine v_iushr C dX1_neighboursInRow_13 ?_
  refine v_ior C dX1_neighboursInRow_14 ?_
  refine v_aload_n C dX1_neighboursInRow_15 rfl 0 rfl ?_
  refine v_iload_n C dX1_neighboursInRow_16 rfl 1 rfl ?_
  refine v_iconst C 1 dX1_neighboursInRow_17 (by decide) ?_
  refine v_isub C dX1_neighboursInRow_18 ?_
  refine v_callVi C (c_Gr_row l G ad (ws) tb hT  (a1 - 1) h) tb hT.1 rfl gX1_neighboursInRow_X1_row rfl kX1_row ⟨rfl, rfl⟩ ⟨Nat.le_of_ble_eq_true rfl, Nat.le_of_ble_eq_true rfl⟩ rfl (Nat.le_of_ble_eq_true rfl) dX1_neighboursInRow_19 (fun r_3 _ h => ?_)
  try dsimp only at h
  refine v_ior C dX1_neighboursInRow_22 ?_
  refine v_aload_n C dX1_neighboursInRow_23 rfl 0 rfl ?_
  refine v_iload_n C dX1_neighboursInRow_24 rfl 1 rfl ?_
  refine v_iconst C 1 dX1_neighboursInRow_25 (by decide) ?_
  refine v_iadd C dX1_neighboursInRow_26 ?_
  refine v_callVi C (c_Gr_row l G ad (ws) tb hT  (a1 + 1) h) tb hT.1 rfl gX1_neighboursInRow_X1_row rfl kX1_row ⟨rfl, rfl⟩ ⟨Nat.le_of_ble_eq_true rfl, Nat.le_of_ble_eq_true rfl⟩ rfl (Nat.le_of_ble_eq_true rfl) dX1_neighboursInRow_27 (fun r_4 _ h => ?_)
  try dsimp only at h
  refine v_ior C dX1_neighboursInRow_30 ?_
  refine v_ldc C 65535 mX1_neighboursInRow_w1 dX1_neighboursInRow_31 ?_
  refine v_iand C dX1_neighboursInRow_33 ?_
  exact hret _ _ _ (((((jshl r_1 1) ||| (jush r_2 1)) ||| r_3) ||| r_4) &&& 65535) () h rfl dX1_neighboursInRow_34
-- QuarterMasks$Grid.takeWidened
def rmX1_takeWidened : Room := { frames := 3, cells := 0, slots := 0, locals := 82 }
theorem kX1_takeWidened : yX1_takeWidened.cls = RX1 ∧ yX1_takeWidened.cls ≠ "java/lang/invoke/MethodHandle" ∧ yX1_takeWidened.cls ≠ "java/lang/invoke/VarHandle" ∧ (parseMethodDescriptor yX1_takeWidened.desc).map (fun d => d.parameters.length) = some 1 := by decide +kernel
theorem mX1_takeWidened_w1 : Cond.fieldLink RX1 9 "QuarterMasks$Grid" "rows" "[I" ∈ wsX1_takeWidened := List.mem_of_getElem? (i := 1) rfl
theorem iX1_takeWidened_1 : ∀ w ∈ wsX10, w ∈ wsX1_takeWidened := fun w h => List.mem_cons_of_mem _ (List.mem_append_right _ h)
def wl_Gr_takeWidened_2 (o_rows : IA) (Q : IA → Prop) : Nat → Int32 → IA → Prop
  | 0, _, _ => False
  | n + 1, x2_1, trows_1 => (16 ≤ x2_1 → (Q trows_1)) ∧ (¬ 16 ≤ x2_1 → (vp_in x2_1 16 ∧ (wp_Gr_neighboursInRow o_rows x2_1 (fun r_1 => vp_in x2_1 16 ∧ (∀ f_rows_1 : IA, f_rows_1 = upd trows_1 x2_1.toNatClampNeg ((o_rows x2_1.toNatClampNeg) ||| r_1) → ((wl_Gr_takeWidened_2 o_rows Q n) (x2_1 + 1) f_rows_1))))))
def wp_Gr_takeWidened (t_rows : IA) (o_rows : IA)  (Q : IA → Prop) : Prop :=
  ∃ k_1 : Nat, wl_Gr_takeWidened_2 o_rows Q k_1 0 t_rows
set_option maxHeartbeats 4000000 in
theorem c_Gr_takeWidened (l : Launch) (G : GG) (ad : Nat → Nat) (Wd : IA → va_W) (tb ob : Nat) {o_rows : IA} (hT : gW G ad Wd tb) (hO : ∀ (t_rows : IA), gR G ad (Wd t_rows) ob o_rows) (t_rows : IA)  {Q : IA → Prop} (h : wp_Gr_takeWidened t_rows o_rows Q) : qm_MV l yX1_takeWidened wsX1_takeWidened rmX1_takeWidened G [.ref (ad tb), .ref (ad ob)] (Wd t_rows) (fun (u : IA) => Q u) (fun (u : IA) => Wd u) := by
  refine qm_mkV (cc := cX1_takeWidened) (maxL := 3) (by decide) rfl (Nat.le_of_ble_eq_true rfl) ?_
  intro X C hret
  replace C : qm_C G 3 X cX1_takeWidened wsX1_takeWidened RX1 := C
  refine v_lv (lv' := [(0, .ref (ad tb)), (1, .ref (ad ob))]) rfl ?_
  unfold wp_Gr_takeWidened at h
  refine v_iconst C 0 dX1_takeWidened_0 (by decide) ?_
  refine v_istore_n C [(2, .int 0), (0, .ref (ad tb)), (1, .ref (ad ob))] dX1_takeWidened_1 rfl (by decide) rfl ?_
  have hl_1 : ∀ n_1 : Nat, ∀ (x2_1 : Int32) (trows_1 : IA), wl_Gr_takeWidened_2 o_rows Q n_1 x2_1 trows_1 → qm_V l G rmX1_takeWidened 3 X (Wd trows_1) [(2, .int x2_1), (0, .ref (ad tb)), (1, .ref (ad ob))] 2 [] := by
    intro n_1
    induction n_1 with
    | zero =>
      intro x2_1 trows_1 h
      exact False.elim h
    | succ n_1 ih_1 =>
      intro x2_1 trows_1 h
      rw [wl_Gr_takeWidened_2] at h
      refine v_iload_n C dX1_takeWidened_2 rfl 0 rfl ?_
      refine v_bipush C 16 dX1_takeWidened_3 (by decide) ?_
      refine v_icmp_ge C 32 dX1_takeWidened_5 (by decide) (fun c_1 => ?_) (fun c_1 => ?_)
      · replace h := h.1 c_1
        exact hret _ _ _ trows_1 h rfl dX1_takeWidened_32
      · replace h := h.2 c_1
        refine v_aload_n C dX1_takeWidened_8 rfl 1 rfl ?_
        refine v_get C iX1_takeWidened_1 tb (hT trows_1).1.1 rfl 0 (by decide) mX1_takeWidened_w1 rfl rfl dX1_takeWidened_9 ?_
        refine v_iload_n C dX1_takeWidened_12 rfl 0 rfl ?_
        refine v_aload_n C dX1_takeWidened_13 rfl 2 rfl ?_
        refine v_get C iX1_takeWidened_1 ob (hO trows_1).1 rfl 0 (by decide) mX1_takeWidened_w1 rfl rfl dX1_takeWidened_14 ?_
        refine v_iload_n C dX1_takeWidened_17 rfl 0 rfl ?_
        obtain ⟨hin_1, h⟩ := h
        refine v_iald C (ob + 1) (hO trows_1).2 hin_1 dX1_takeWidened_18 ?_
        refine v_aload_n C dX1_takeWidened_19 rfl 2 rfl ?_
        refine v_iload_n C dX1_takeWidened_20 rfl 0 rfl ?_
        refine v_callVi C (c_Gr_neighboursInRow l G ad (Wd trows_1) ob (hO trows_1)  x2_1 h) ob (hO trows_1).1 rfl gX1_takeWidened_X1_neighboursInRow rfl kX1_neighboursInRow ⟨rfl, rfl⟩ ⟨Nat.le_of_ble_eq_true rfl, Nat.le_of_ble_eq_true rfl⟩ rfl (Nat.le_of_ble_eq_true rfl) dX1_takeWidened_21 (fun r_1 _ h => ?_)
        try dsimp only at h
        refine v_ior C dX1_takeWidened_24 ?_
        obtain ⟨hin_2, h⟩ := h
        obtain ⟨f_rows_1, ef_rows_1⟩ : ∃ y : IA, y = upd trows_1 x2_1.toNatClampNeg ((o_rows x2_1.toNatClampNeg) ||| r_1) := ⟨_, rfl⟩
        replace h := h f_rows_1 ef_rows_1
        refine v_iast C (tb + 1) (hT trows_1).1.2 (ws' := Wd f_rows_1) (by subst ef_rows_1; exact ((hT trows_1).2 _)) hin_2 dX1_takeWidened_25 ?_
        refine v_iinc C (x2_1 + 1) 0 [(2, .int (x2_1 + 1)), (0, .ref (ad tb)), (1, .ref (ad ob))] dX1_takeWidened_26 rfl rfl (by decide) rfl ?_
        refine v_goto C 2 dX1_takeWidened_29 (by decide) ?_
        exact ih_1 (x2_1 + 1) f_rows_1 h
  obtain ⟨k_1, h⟩ := h
  exact hl_1 k_1 0 t_rows h
-- QuarterMasks$Grid.darkCells
def rmX1_darkCells : Room := { frames := 2, cells := 0, slots := 0, locals := 60 }
theorem kX1_darkCells : yX1_darkCells.cls = RX1 ∧ yX1_darkCells.cls ≠ "java/lang/invoke/MethodHandle" ∧ yX1_darkCells.cls ≠ "java/lang/invoke/VarHandle" ∧ (parseMethodDescriptor yX1_darkCells.desc).map (fun d => d.parameters.length) = some 0 := by decide +kernel
theorem mX1_darkCells_w1 : Cond.fieldLink RX1 9 "QuarterMasks$Grid" "rows" "[I" ∈ wsX1_darkCells := List.mem_of_getElem? (i := 1) rfl
theorem iX1_darkCells_1 : ∀ w ∈ wsX10, w ∈ wsX1_darkCells := fun w h => List.mem_cons_of_mem _ (List.mem_append_right _ h)
def wl_Gr_darkCells_4 (t_rows : IA) (Q : Int32 → Prop) : Nat → Int32 → Int32 → Prop
  | 0, _, _ => False
  | n + 1, x2_1, x1_1 => (16 ≤ x2_1 → (Q x1_1)) ∧ (¬ 16 ≤ x2_1 → (vp_in x2_1 16 ∧ (wp_In_bitCount (t_rows x2_1.toNatClampNeg) (fun r_1 => ∀ x1_2 : Int32, x1_2 = (x1_1 + r_1) → ((wl_Gr_darkCells_4 t_rows Q n) (x2_1 + 1) x1_2)))))
def wp_Gr_darkCells (t_rows : IA)  (Q : Int32 → Prop) : Prop :=
  ∃ k_1 : Nat, wl_Gr_darkCells_4 t_rows Q k_1 0 0
set_option maxHeartbeats 4000000 in
theorem c_Gr_darkCells (l : Launch) (G : GG) (ad : Nat → Nat) (ws : va_W) (tb : Nat) {t_rows : IA} (hT : gR G ad ws tb t_rows)   {Q : Int32 → Prop} (h : wp_Gr_darkCells t_rows Q) : qm_MI l yX1_darkCells wsX1_darkCells rmX1_darkCells G [.ref (ad tb)] (ws) (fun (r : Int32) (_ : Unit) => Q r) (fun (_ : Unit) => ws) := by
  refine qm_mkI (cc := cX1_darkCells) (maxL := 3) (by decide) rfl (Nat.le_of_ble_eq_true rfl) ?_
  intro X C hret
  replace C : qm_C G 3 X cX1_darkCells wsX1_darkCells RX1 := C
  refine v_lv (lv' := [(0, .ref (ad tb))]) rfl ?_
  unfold wp_Gr_darkCells at h
  refine v_iconst C 0 dX1_darkCells_0 (by decide) ?_
  refine v_istore_n C [(1, .int 0), (0, .ref (ad tb))] dX1_darkCells_1 rfl (by decide) rfl ?_
  refine v_iconst C 0 dX1_darkCells_2 (by decide) ?_
  refine v_istore_n C [(2, .int 0), (1, .int 0), (0, .ref (ad tb))] dX1_darkCells_3 rfl (by decide) rfl ?_
  have hl_1 : ∀ n_1 : Nat, ∀ (x2_1 : Int32) (x1_1 : Int32), wl_Gr_darkCells_4 t_rows Q n_1 x2_1 x1_1 → qm_V l G rmX1_darkCells 3 X (ws) [(2, .int x2_1), (1, .int x1_1), (0, .ref (ad tb))] 4 [] := by
    intro n_1
    induction n_1 with
    | zero =>
      intro x2_1 x1_1 h
      exact False.elim h
    | succ n_1 ih_1 =>
      intro x2_1 x1_1 h
      rw [wl_Gr_darkCells_4] at h
      refine v_iload_n C dX1_darkCells_4 rfl 0 rfl ?_
      refine v_bipush C 16 dX1_darkCells_5 (by decide) ?_
      refine v_icmp_ge C 28 dX1_darkCells_7 (by decide) (fun c_1 => ?_) (fun c_1 => ?_)
      · replace h := h.1 c_1
        refine v_iload_n C dX1_darkCells_28 rfl 1 rfl ?_
        exact hret _ _ _ x1_1 () h rfl dX1_darkCells_29
      · replace h := h.2 c_1
        refine v_iload_n C dX1_darkCells_10 rfl 1 rfl ?_
        refine v_aload_n C dX1_darkCells_11 rfl 2 rfl ?_
        refine v_get C iX1_darkCells_1 tb hT.1 rfl 0 (by decide) mX1_darkCells_w1 rfl rfl dX1_darkCells_12 ?_
        refine v_iload_n C dX1_darkCells_15 rfl 0 rfl ?_
        obtain ⟨hin_1, h⟩ := h
        refine v_iald C (tb + 1) hT.2 hin_1 dX1_darkCells_16 ?_
        refine v_callSi C (c_In_bitCount l G (ws) (t_rows x2_1.toNatClampNeg) h) gX1_darkCells_J6_bitCount_0f7a4 rfl kJ6_bitCount_0f7a4 ⟨rfl, rfl⟩ ⟨Nat.le_of_ble_eq_true rfl, Nat.le_of_ble_eq_true rfl⟩ rfl (Nat.le_of_ble_eq_true rfl) dX1_darkCells_17 (fun r_1 _ h => ?_)
        try dsimp only at h
        refine v_iadd C dX1_darkCells_20 ?_
        refine v_topi (fun x1_2 ex1_2 => ?_)
        replace h := h x1_2 ex1_2
        refine v_istore_n C [(1, .int x1_2), (2, .int x2_1), (0, .ref (ad tb))] dX1_darkCells_21 rfl (by decide) rfl ?_
        refine v_iinc C (x2_1 + 1) 1 [(2, .int (x2_1 + 1)), (1, .int x1_2), (0, .ref (ad tb))] dX1_darkCells_22 rfl rfl (by decide) rfl ?_
        refine v_goto C 4 dX1_darkCells_25 (by decide) ?_
        exact ih_1 (x2_1 + 1) x1_2 h
  obtain ⟨k_1, h⟩ := h
  exact hl_1 k_1 0 0 h
-- QuarterMasks$Grid.darkCellsIn
def rmX1_darkCellsIn : Room := { frames := 2, cells := 0, slots := 0, locals := 60 }
theorem kX1_darkCellsIn : yX1_darkCellsIn.cls = RX1 ∧ yX1_darkCellsIn.cls ≠ "java/lang/invoke/MethodHandle" ∧ yX1_darkCellsIn.cls ≠ "java/lang/invoke/VarHandle" ∧ (parseMethodDescriptor yX1_darkCellsIn.desc).map (fun d => d.parameters.length) = some 1 := by decide +kernel
theorem mX1_darkCellsIn_w1 : Cond.fieldLink RX1 9 "QuarterMasks$Grid" "rows" "[I" ∈ wsX1_darkCellsIn := List.mem_of_getElem? (i := 1) rfl
theorem iX1_darkCellsIn_1 : ∀ w ∈ wsX10, w ∈ wsX1_darkCellsIn := fun w h => List.mem_cons_of_mem _ (List.mem_append_right _ h)
def wl_Gr_darkCellsIn_4 (t_rows : IA) (o_rows : IA) (Q : Int32 → Prop) : Nat → Int32 → Int32 → Prop
  | 0, _, _ => False
  | n + 1, x3_1, x2_1 => (16 ≤ x3_1 → (Q x2_1)) ∧ (¬ 16 ≤ x3_1 → (vp_in x3_1 16 ∧ (vp_in x3_1 16 ∧ (wp_In_bitCount ((t_rows x3_1.toNatClampNeg) &&& (o_rows x3_1.toNatClampNeg)) (fun r_1 => ∀ x2_2 : Int32, x2_2 = (x2_1 + r_1) → ((wl_Gr_darkCellsIn_4 t_rows o_rows Q n) (x3_1 + 1) x2_2))))))
def wp_Gr_darkCellsIn (t_rows : IA) (o_rows : IA)  (Q : Int32 → Prop) : Prop :=
  ∃ k_1 : Nat, wl_Gr_darkCellsIn_4 t_rows o_rows Q k_1 0 0
set_option maxHeartbeats 4000000 in
theorem c_Gr_darkCellsIn (l : Launch) (G : GG) (ad : Nat → Nat) (ws : va_W) (tb ob : Nat) {t_rows : IA} {o_rows : IA} (hT : gR G ad ws tb t_rows) (hO : gR G ad ws ob o_rows)   {Q : Int32 → Prop} (h : wp_Gr_darkCellsIn t_rows o_rows Q) : qm_MI l yX1_darkCellsIn wsX1_darkCellsIn rmX1_darkCellsIn G [.ref (ad tb), .ref (ad ob)] (ws) (fun (r : Int32) (_ : Unit) => Q r) (fun (_ : Unit) => ws) := by
  refine qm_mkI (cc := cX1_darkCellsIn) (maxL := 4) (by decide) rfl (Nat.le_of_ble_eq_true rfl) ?_
  intro X C hret
  replace C : qm_C G 4 X cX1_darkCellsIn wsX1_darkCellsIn RX1 := C
  refine v_lv (lv' := [(0, .ref (ad tb)), (1, .ref (ad ob))]) rfl ?_
  unfold wp_Gr_darkCellsIn at h
  refine v_iconst C 0 dX1_darkCellsIn_0 (by decide) ?_
  refine v_istore_n C [(2, .int 0), (0, .ref (ad tb)), (1, .ref (ad ob))] dX1_darkCellsIn_1 rfl (by decide) rfl ?_
  refine v_iconst C 0 dX1_darkCellsIn_2 (by decide) ?_
  refine v_istore_n C [(3, .int 0), (2, .int 0), (0, .ref (ad tb)), (1, .ref (ad ob))] dX1_darkCellsIn_3 rfl (by decide) rfl ?_
  have hl_1 : ∀ n_1 : Nat, ∀ (x3_1 : Int32) (x2_1 : Int32), wl_Gr_darkCellsIn_4 t_rows o_rows Q n_1 x3_1 x2_1 → qm_V l G rmX1_darkCellsIn 4 X (ws) [(3, .int x3_1), (2, .int x2_1), (0, .ref (ad tb)), (1, .ref (ad ob))] 4 [] := by
    intro n_1
    induction n_1 with
    | zero =>
      intro x3_1 x2_1 h
      exact False.elim h
    | succ n_1 ih_1 =>
      intro x3_1 x2_1 h
      rw [wl_Gr_darkCellsIn_4] at h
      refine v_iload_n C dX1_darkCellsIn_4 rfl 0 rfl ?_
      refine v_bipush C 16 dX1_darkCellsIn_5 (by decide) ?_
      refine v_icmp_ge C 35 dX1_darkCellsIn_7 (by decide) (fun c_1 => ?_) (fun c_1 => ?_)
      · replace h := h.1 c_1
        refine v_iload_n C dX1_darkCellsIn_35 rfl 1 rfl ?_
        exact hret _ _ _ x2_1 () h rfl dX1_darkCellsIn_36
      · replace h := h.2 c_1
        refine v_iload_n C dX1_darkCellsIn_10 rfl 1 rfl ?_
        refine v_aload_n C dX1_darkCellsIn_11 rfl 2 rfl ?_
        refine v_get C iX1_darkCellsIn_1 tb hT.1 rfl 0 (by decide) mX1_darkCellsIn_w1 rfl rfl dX1_darkCellsIn_12 ?_
        refine v_iload_n C dX1_darkCellsIn_15 rfl 0 rfl ?_
        obtain ⟨hin_1, h⟩ := h
        refine v_iald C (tb + 1) hT.2 hin_1 dX1_darkCellsIn_16 ?_
        refine v_aload_n C dX1_darkCellsIn_17 rfl 3 rfl ?_
        refine v_get C iX1_darkCellsIn_1 ob hO.1 rfl 0 (by decide) mX1_darkCellsIn_w1 rfl rfl dX1_darkCellsIn_18 ?_
        refine v_iload_n C dX1_darkCellsIn_21 rfl 0 rfl ?_
        obtain ⟨hin_2, h⟩ := h
        refine v_iald C (ob + 1) hO.2 hin_2 dX1_darkCellsIn_22 ?_
        refine v_iand C dX1_darkCellsIn_23 ?_
        refine v_callSi C (c_In_bitCount l G (ws) ((t_rows x3_1.toNatClampNeg) &&& (o_rows x3_1.toNatClampNeg)) h) gX1_darkCellsIn_J6_bitCount_0f7a4 rfl kJ6_bitCount_0f7a4 ⟨rfl, rfl⟩ ⟨Nat.le_of_ble_eq_true rfl, Nat.le_of_ble_eq_true rfl⟩ rfl (Nat.le_of_ble_eq_true rfl) dX1_darkCellsIn_24 (fun r_1 _ h => ?_)
        try dsimp only at h
        refine v_iadd C dX1_darkCellsIn_27 ?_
        refine v_topi (fun x2_2 ex2_2 => ?_)
        replace h := h x2_2 ex2_2
        refine v_istore_n C [(2, .int x2_2), (3, .int x3_1), (0, .ref (ad tb)), (1, .ref (ad ob))] dX1_darkCellsIn_28 rfl (by decide) rfl ?_
        refine v_iinc C (x3_1 + 1) 1 [(3, .int (x3_1 + 1)), (2, .int x2_2), (0, .ref (ad tb)), (1, .ref (ad ob))] dX1_darkCellsIn_29 rfl rfl (by decide) rfl ?_
        refine v_goto C 4 dX1_darkCellsIn_32 (by decide) ?_
        exact ih_1 (x3_1 + 1) x2_2 h
  obtain ⟨k_1, h⟩ := h
  exact hl_1 k_1 0 0 h
-- QuarterMasks$Grid.sameAs
def rmX1_sameAs : Room := { frames := 1, cells := 0, slots := 0, locals := 40 }
theorem kX1_sameAs : yX1_sameAs.cls = RX1 ∧ yX1_sameAs.cls ≠ "java/lang/invoke/MethodHandle" ∧ yX1_sameAs.cls ≠ "java/lang/invoke/VarHandle" ∧ (parseMethodDescriptor yX1_sameAs.desc).map (fun d => d.parameters.length) = some 1 := by decide +kernel
theorem mX1_sameAs_w1 : Cond.fieldLink RX1 9 "QuarterMasks$Grid" "rows" "[I" ∈ wsX1_sameAs := List.mem_of_getElem? (i := 1) rfl
theorem iX1_sameAs_1 : ∀ w ∈ wsX10, w ∈ wsX1_sameAs := fun w h => List.mem_cons_of_mem _ (List.mem_append_right _ h)
def wl_Gr_sameAs_2 (t_rows : IA) (o_rows : IA) (Q : Int32 → Prop) : Nat → Int32 → Prop
  | 0, _ => False
  | n + 1, x2_1 => (16 ≤ x2_1 → (Q 1)) ∧ (¬ 16 ≤ x2_1 → (vp_in x2_1 16 ∧ (vp_in x2_1 16 ∧ (((t_rows x2_1.toNatClampNeg) = (o_rows x2_1.toNatClampNeg) → ((wl_Gr_sameAs_2 t_rows o_rows Q n) (x2_1 + 1))) ∧ (¬ (t_rows x2_1.toNatClampNeg) = (o_rows x2_1.toNatClampNeg) → (Q 0))))))
def wp_Gr_sameAs (t_rows : IA) (o_rows : IA)  (Q : Int32 → Prop) : Prop :=
  ∃ k_1 : Nat, wl_Gr_sameAs_2 t_rows o_rows Q k_1 0
set_option maxHeartbeats 4000000 in
theorem c_Gr_sameAs (l : Launch) (G : GG) (ad : Nat → Nat) (ws : va_W) (tb ob : Nat) {t_rows : IA} {o_rows : IA} (hT : gR G ad ws tb t_rows) (hO : gR G ad ws ob o_rows)   {Q : Int32 → Prop} (h : wp_Gr_sameAs t_rows o_rows Q) : qm_MI l yX1_sameAs wsX1_sameAs rmX1_sameAs G [.ref (ad tb), .ref (ad ob)] (ws) (fun (r : Int32) (_ : Unit) => Q r) (fun (_ : Unit) => ws) := by
  refine qm_mkZ (cc := cX1_sameAs) (maxL := 3) (by decide) rfl (Nat.le_of_ble_eq_true rfl) ?_
  intro X C hret
  replace C : qm_C G 3 X cX1_sameAs wsX1_sameAs RX1 := C
  refine v_lv (lv' := [(0, .ref (ad tb)), (1, .ref (ad ob))]) rfl ?_
  unfold wp_Gr_sameAs at h
  refine v_iconst C 0 dX1_sameAs_0 (by decide) ?_
  refine v_istore_n C [(2, .int 0), (0, .ref (ad tb)), (1, .ref (ad ob))] dX1_sameAs_1 rfl (by decide) rfl ?_
  have hl_1 : ∀ n_1 : Nat, ∀ (x2_1 : Int32), wl_Gr_sameAs_2 t_rows o_rows Q n_1 x2_1 → qm_V l G rmX1_sameAs 3 X (ws) [(2, .int x2_1), (0, .ref (ad tb)), (1, .ref (ad ob))] 2 [] := by
    intro n_1
    induction n_1 with
    | zero =>
      intro x2_1 h
      exact False.elim h
    | succ n_1 ih_1 =>
      intro x2_1 h
      rw [wl_Gr_sameAs_2] at h
      refine v_iload_n C dX1_sameAs_2 rfl 0 rfl ?_
      refine v_bipush C 16 dX1_sameAs_3 (by decide) ?_
      refine v_icmp_ge C 31 dX1_sameAs_5 (by decide) (fun c_2 => ?_) (fun c_2 => ?_)
      · replace h := h.1 c_2
        refine v_iconst C 1 dX1_sameAs_31 (by decide) ?_
        exact hret _ _ _ 1 () h rfl rfl dX1_sameAs_32
      · replace h := h.2 c_2
        refine v_aload_n C dX1_sameAs_8 rfl 1 rfl ?_
        refine v_get C iX1_sameAs_1 tb hT.1 rfl 0 (by decide) mX1_sameAs_w1 rfl rfl dX1_sameAs_9 ?_
        refine v_iload_n C dX1_sameAs_12 rfl 0 rfl ?_
        obtain ⟨hin_1, h⟩ := h
        refine v_iald C (tb + 1) hT.2 hin_1 dX1_sameAs_13 ?_
        refine v_aload_n C dX1_sameAs_14 rfl 2 rfl ?_
        refine v_get C iX1_sameAs_1 ob hO.1 rfl 0 (by decide) mX1_sameAs_w1 rfl rfl dX1_sameAs_15 ?_
        refine v_iload_n C dX1_sameAs_18 rfl 0 rfl ?_
        obtain ⟨hin_2, h⟩ := h
        refine v_iald C (ob + 1) hO.2 hin_2 dX1_sameAs_19 ?_
        refine v_icmp_eq C 25 dX1_sameAs_20 (by decide) (fun c_1 => ?_) (fun c_1 => ?_)
        · replace h := h.1 c_1
          refine v_iinc C (x2_1 + 1) 0 [(2, .int (x2_1 + 1)), (0, .ref (ad tb)), (1, .ref (ad ob))] dX1_sameAs_25 rfl rfl (by decide) rfl ?_
          refine v_goto C 2 dX1_sameAs_28 (by decide) ?_
          exact ih_1 (x2_1 + 1) h
        · replace h := h.2 c_1
          refine v_iconst C 0 dX1_sameAs_23 (by decide) ?_
          exact hret _ _ _ 0 () h rfl rfl dX1_sameAs_24
  obtain ⟨k_1, h⟩ := h
  exact hl_1 k_1 0 h
-- QuarterMasks$Grid.touches
def rmX1_touches : Room := { frames := 3, cells := 0, slots := 0, locals := 82 }
theorem kX1_touches : yX1_touches.cls = RX1 ∧ yX1_touches.cls ≠ "java/lang/invoke/MethodHandle" ∧ yX1_touches.cls ≠ "java/lang/invoke/VarHandle" ∧ (parseMethodDescriptor yX1_touches.desc).map (fun d => d.parameters.length) = some 1 := by decide +kernel
theorem mX1_touches_w1 : Cond.fieldLink RX1 9 "QuarterMasks$Grid" "rows" "[I" ∈ wsX1_touches := List.mem_of_getElem? (i := 1) rfl
theorem iX1_touches_1 : ∀ w ∈ wsX10, w ∈ wsX1_touches := fun w h => List.mem_cons_of_mem _ (List.mem_append_right _ h)
def wl_Gr_touches_2 (t_rows : IA) (o_rows : IA) (Q : Int32 → Prop) : Nat → Int32 → Prop
  | 0, _ => False
  | n + 1, x2_1 => (16 ≤ x2_1 → (Q 0)) ∧ (¬ 16 ≤ x2_1 → (vp_in x2_1 16 ∧ (wp_Gr_neighboursInRow o_rows x2_1 (fun r_1 => (((t_rows x2_1.toNatClampNeg) &&& r_1) = 0 → ((wl_Gr_touches_2 t_rows o_rows Q n) (x2_1 + 1))) ∧ (¬ ((t_rows x2_1.toNatClampNeg) &&& r_1) = 0 → (Q 1))))))
def wp_Gr_touches (t_rows : IA) (o_rows : IA)  (Q : Int32 → Prop) : Prop :=
  ∃ k_1 : Nat, wl_Gr_touches_2 t_rows o_rows Q k_1 0
set_option maxHeartbeats 4000000 in
theorem c_Gr_touches (l : Launch) (G : GG) (ad : Nat → Nat) (ws : va_W) (tb ob : Nat) {t_rows : IA} {o_rows : IA} (hT : gR G ad ws tb t_rows) (hO : gR G ad ws ob o_rows)   {Q : Int32 → Prop} (h : wp_Gr_touches t_rows o_rows Q) : qm_MI l yX1_touches wsX1_touches rmX1_touches G [.ref (ad tb), .ref (ad ob)] (ws) (fun (r : Int32) (_ : Unit) => Q r) (fun (_ : Unit) => ws) := by
  refine qm_mkZ (cc := cX1_touches) (maxL := 3) (by decide) rfl (Nat.le_of_ble_eq_true rfl) ?_
  intro X C hret
  replace C : qm_C G 3 X cX1_touches wsX1_touches RX1 := C
  refine v_lv (lv' := [(0, .ref (ad tb)), (1, .ref (ad ob))]) rfl ?_
  unfold wp_Gr_touches at h
  refine v_iconst C 0 dX1_touches_0 (by decide) ?_
  refine v_istore_n C [(2, .int 0), (0, .ref (ad tb)), (1, .ref (ad ob))] dX1_touches_1 rfl (by decide) rfl ?_
  have hl_1 : ∀ n_1 : Nat, ∀ (x2_1 : Int32), wl_Gr_touches_2 t_rows o_rows Q n_1 x2_1 → qm_V l G rmX1_touches 3 X (ws) [(2, .int x2_1), (0, .ref (ad tb)), (1, .ref (ad ob))] 2 [] := by
    intro n_1
    induction n_1 with
    | zero =>
      intro x2_1 h
      exact False.elim h
    | succ n_1 ih_1 =>
      intro x2_1 h
      rw [wl_Gr_touches_2] at h
      refine v_iload_n C dX1_touches_2 rfl 0 rfl ?_
      refine v_bipush C 16 dX1_touches_3 (by decide) ?_
      refine v_icmp_ge C 31 dX1_touches_5 (by decide) (fun c_2 => ?_) (fun c_2 => ?_)
      · replace h := h.1 c_2
        refine v_iconst C 0 dX1_touches_31 (by decide) ?_
        exact hret _ _ _ 0 () h rfl rfl dX1_touches_32
      · replace h := h.2 c_2
        refine v_aload_n C dX1_touches_8 rfl 1 rfl ?_
        refine v_get C iX1_touches_1 tb hT.1 rfl 0 (by decide) mX1_touches_w1 rfl rfl dX1_touches_9 ?_
        refine v_iload_n C dX1_touches_12 rfl 0 rfl ?_
        obtain ⟨hin_1, h⟩ := h
        refine v_iald C (tb + 1) hT.2 hin_1 dX1_touches_13 ?_
        refine v_aload_n C dX1_touches_14 rfl 2 rfl ?_
        refine v_iload_n C dX1_touches_15 rfl 0 rfl ?_
        refine v_callVi C (c_Gr_neighboursInRow l G ad (ws) ob hO  x2_1 h) ob hO.1 rfl gX1_touches_X1_neighboursInRow rfl kX1_neighboursInRow ⟨rfl, rfl⟩ ⟨Nat.le_of_ble_eq_true rfl, Nat.le_of_ble_eq_true rfl⟩ rfl (Nat.le_of_ble_eq_true rfl) dX1_touches_16 (fun r_1 _ h => ?_)
        try dsimp only at h
        refine v_iand C dX1_touches_19 ?_
        refine v_if_eq C 25 dX1_touches_20 (by decide) (fun c_1 => ?_) (fun c_1 => ?_)
        · replace h := h.1 c_1
          refine v_iinc C (x2_1 + 1) 0 [(2, .int (x2_1 + 1)), (0, .ref (ad tb)), (1, .ref (ad ob))] dX1_touches_25 rfl rfl (by decide) rfl ?_
          refine v_goto C 2 dX1_touches_28 (by decide) ?_
          exact ih_1 (x2_1 + 1) h
        · replace h := h.2 c_1
          refine v_iconst C 1 dX1_touches_23 (by decide) ?_
          exact hret _ _ _ 1 () h rfl rfl dX1_touches_24
  obtain ⟨k_1, h⟩ := h
  exact hl_1 k_1 0 h
-- QuarterMasks$Grid.border
def rmX1_border : Room := { frames := 3, cells := 0, slots := 0, locals := 82 }
theorem kX1_border : yX1_border.cls = RX1 ∧ yX1_border.cls ≠ "java/lang/invoke/MethodHandle" ∧ yX1_border.cls ≠ "java/lang/invoke/VarHandle" ∧ (parseMethodDescriptor yX1_border.desc).map (fun d => d.parameters.length) = some 0 := by decide +kernel
theorem mX1_border_w1 : Cond.fieldLink RX1 9 "QuarterMasks$Grid" "rows" "[I" ∈ wsX1_border := List.mem_of_getElem? (i := 1) rfl
theorem iX1_border_1 : ∀ w ∈ wsX10, w ∈ wsX1_border := fun w h => List.mem_cons_of_mem _ (List.mem_append_right _ h)
def wx_Gr_border_57 (t_rows : IA) (Q : Int32 → Prop) (x2_2 : Int32) (x1_2 : Int32) : Prop :=
  wp_Gr_darkCells t_rows (fun r_1 => Q ((4 * r_1) - (2 * x1_2)))
def wl_Gr_border_4 (t_rows : IA) (Kx_1 : Int32 → Int32 → Prop) : Nat → Int32 → Int32 → Prop
  | 0, _, _ => False
  | n + 1, x2_1, x1_1 => (16 ≤ x2_1 → (Kx_1 x2_1 x1_1)) ∧ (¬ 16 ≤ x2_1 → (vp_in x2_1 16 ∧ (vp_in x2_1 16 ∧ (wp_In_bitCount ((t_rows x2_1.toNatClampNeg) &&& (jshl (t_rows x2_1.toNatClampNeg) 1)) (fun r_2 => ∀ x1_3 : Int32, x1_3 = (x1_1 + r_2) → (vp_in x2_1 16 ∧ (wp_Gr_row t_rows (x2_1 + 1) (fun r_3 => wp_In_bitCount ((t_rows x2_1.toNatClampNeg) &&& r_3) (fun r_4 => ∀ x1_4 : Int32, x1_4 = (x1_3 + r_4) → ((wl_Gr_border_4 t_rows Kx_1 n) (x2_1 + 1) x1_4))))))))))
def wp_Gr_border (t_rows : IA)  (Q : Int32 → Prop) : Prop :=
  ∃ k_1 : Nat, wl_Gr_border_4 t_rows (wx_Gr_border_57 t_rows Q) k_1 0 0
set_option maxHeartbeats 4000000 in
theorem c_Gr_border (l : Launch) (G : GG) (ad : Nat → Nat) (ws : va_W) (tb : Nat) {t_rows : IA} (hT : gR G ad ws tb t_rows)   {Q : Int32 → Prop} (h : wp_Gr_border t_rows Q) : qm_MI l yX1_border wsX1_border rmX1_border G [.ref (ad tb)] (ws) (fun (r : Int32) (_ : Unit) => Q r) (fun (_ : Unit) => ws) := by
  refine qm_mkI (cc := cX1_border) (maxL := 3) (by decide) rfl (Nat.le_of_ble_eq_true rfl) ?_
  intro X C hret
  replace C : qm_C G 3 X cX1_border wsX1_border RX1 := C
  refine v_lv (lv' := [(0, .ref (ad tb))]) rfl ?_
  unfold wp_Gr_border at h
  refine v_iconst C 0 dX1_border_0 (by decide) ?_
  refine v_istore_n C [(1, .int 0), (0, .ref (ad tb))] dX1_border_1 rfl (by decide) rfl ?_
  refine v_iconst C 0 dX1_border_2 (by decide) ?_
  refine v_istore_n C [(2, .int 0), (1, .int 0), (0, .ref (ad tb))] dX1_border_3 rfl (by decide) rfl ?_
  have hx_1 : ∀ (x2_2 : Int32) (x1_2 : Int32), (wx_Gr_border_57 t_rows Q) x2_2 x1_2 → qm_V l G rmX1_border 3 X (ws) [(2, .int x2_2), (1, .int x1_2), (0, .ref (ad tb))] 57 [] := by
    intro x2_2 x1_2 h
    unfold wx_Gr_border_57 at h
    refine v_iconst C 4 dX1_border_57 (by decide) ?_
    refine v_aload_n C dX1_border_58 rfl 2 rfl ?_
    refine v_callVi C (c_Gr_darkCells l G ad (ws) tb hT  h) tb hT.1 rfl gX1_border_X1_darkCells rfl kX1_darkCells ⟨rfl, rfl⟩ ⟨Nat.le_of_ble_eq_true rfl, Nat.le_of_ble_eq_true rfl⟩ rfl (Nat.le_of_ble_eq_true rfl) dX1_border_59 (fun r_1 _ h => ?_)
    try dsimp only at h
    refine v_imul C dX1_border_62 ?_
    refine v_iconst C 2 dX1_border_63 (by decide) ?_
    refine v_iload_n C dX1_border_64 rfl 1 rfl ?_
    refine v_imul C dX1_border_65 ?_
    refine v_isub C dX1_border_66 ?_
    exact hret _ _ _ ((4 * r_1) - (2 * x1_2)) () h rfl dX1_border_67
  have hl_1 : ∀ n_1 : Nat, ∀ (x2_1 : Int32) (x1_1 : Int32), wl_Gr_border_4 t_rows (wx_Gr_border_57 t_rows Q) n_1 x2_1 x1_1 → qm_V l G rmX1_border 3 X (ws) [(2, .int x2_1), (1, .int x1_1), (0, .ref (ad tb))] 4 [] := by
    intro n_1
    induction n_1 with
    | zero =>
      intro x2_1 x1_1 h
      exact False.elim h
    | succ n_1 ih_1 =>
      intro x2_1 x1_1 h
      rw [wl_Gr_border_4] at h
      refine v_iload_n C dX1_border_4 rfl 0 rfl ?_
      refine v_bipush C 16 dX1_border_5 (by decide) ?_
      refine v_icmp_ge C 57 dX1_border_7 (by decide) (fun c_1 => ?_) (fun c_1 => ?_)
      · replace h := h.1 c_1
        exact hx_1 x2_1 x1_1 h
      · replace h := h.2 c_1
        refine v_iload_n C dX1_border_10 rfl 1 rfl ?_
        refine v_aload_n C dX1_border_11 rfl 2 rfl ?_
        refine v_get C iX1_border_1 tb hT.1 rfl 0 (by decide) mX1_border_w1 rfl rfl dX1_border_12 ?_
        refine v_iload_n C dX1_border_15 rfl 0 rfl ?_
        obtain ⟨hin_1, h⟩ := h
        refine v_iald C (tb + 1) hT.2 hin_1 dX1_border_16 ?_
        refine v_aload_n C dX1_border_17 rfl 2 rfl ?_
        refine v_get C iX1_border_1 tb hT.1 rfl 0 (by decide) mX1_border_w1 rfl rfl dX1_border_18 ?_
        refine v_iload_n C dX1_border_21 rfl 0 rfl ?_
        obtain ⟨hin_2, h⟩ := h
        refine v_iald C (tb + 1) hT.2 hin_2 dX1_border_22 ?_
        refine v_iconst C 1 dX1_border_23 (by decide) ?_
        refine v_ishl C dX1_border_24 ?_
        refine v_iand C dX1_border_25 ?_
        refine v_callSi C (c_In_bitCount l G (ws) ((t_rows x2_1.toNatClampNeg) &&& (jshl (t_rows x2_1.toNatClampNeg) 1)) h) gX1_border_J6_bitCount_0f7a4 rfl kJ6_bitCount_0f7a4 ⟨rfl, rfl⟩ ⟨Nat.le_of_ble_eq_true rfl, Nat.le_of_ble_eq_true rfl⟩ rfl (Nat.le_of_ble_eq_true rfl) dX1_border_26 (fun r_2 _ h => ?_)
        try dsimp only at h
        refine v_iadd C dX1_border_29 ?_
        refine v_topi (fun x1_3 ex1_3 => ?_)
        replace h := h x1_3 ex1_3
        refine v_istore_n C [(1, .int x1_3), (2, .int x2_1), (0, .ref (ad tb))] dX1_border_30 rfl (by decide) rfl ?_
        refine v_iload_n C dX1_border_31 rfl 0 rfl ?_
        refine v_aload_n C dX1_border_32 rfl 2 rfl ?_
        refine v_get C iX1_border_1 tb hT.1 rfl 0 (by decide) mX1_border_w1 rfl rfl dX1_border_33 ?_
        refine v_iload_n C dX1_border_36 rfl 1 rfl ?_
        obtain ⟨hin_3, h⟩ := h
        refine v_iald C (tb + 1) hT.2 hin_3 dX1_border_37 ?_
        refine v_aload_n C dX1_border_38 rfl 2 rfl ?_
        refine v_iload_n C dX1_border_39 rfl 1 rfl ?_
        refine v_iconst C 1 dX1_border_40 (by decide) ?_
        refine v_iadd C dX1_border_41 ?_
        refine v_callVi C (c_Gr_row l G ad (ws) tb hT  (x2_1 + 1) h) tb hT.1 rfl gX1_border_X1_row rfl kX1_row ⟨rfl, rfl⟩ ⟨Nat.le_of_ble_eq_true rfl, Nat.le_of_ble_eq_true rfl⟩ rfl (Nat.le_of_ble_eq_true rfl) dX1_border_42 (fun r_3 _ h => ?_)
        try dsimp only at h
        refine v_iand C dX1_border_45 ?_
        refine v_callSi C (c_In_bitCount l G (ws) ((t_rows x2_1.toNatClampNeg) &&& r_3) h) gX1_border_J6_bitCount_0f7a4 rfl kJ6_bitCount_0f7a4 ⟨rfl, rfl⟩ ⟨Nat.le_of_ble_eq_true rfl, Nat.le_of_ble_eq_true rfl⟩ rfl (Nat.le_of_ble_eq_true rfl) dX1_border_46 (fun r_4 _ h => ?_)
        try dsimp only at h
        refine v_iadd C dX1_border_49 ?_
        refine v_topi (fun x1_4 ex1_4 => ?_)
        replace h := h x1_4 ex1_4
        refine v_istore_n C [(1, .int x1_4), (2, .int x2_1), (0, .ref (ad tb))] dX1_border_50 rfl (by decide) rfl ?_
        refine v_iinc C (x2_1 + 1) 1 [(2, .int (x2_1 + 1)), (1, .int x1_4), (0, .ref (ad tb))] dX1_border_51 rfl rfl (by decide) rfl ?_
        refine v_goto C 4 dX1_border_54 (by decide) ?_
        exact ih_1 (x2_1 + 1) x1_4 h
  obtain ⟨k_1, h⟩ := h
  exact hl_1 k_1 0 0 h
-- QuarterMasks$Grid.signOfSquare
def rmX1_signOfSquare : Room := { frames := 2, cells := 0, slots := 0, locals := 61 }
theorem kX1_signOfSquare : yX1_signOfSquare.cls = RX1 ∧ yX1_signOfSquare.cls ≠ "java/lang/invoke/MethodHandle" ∧ yX1_signOfSquare.cls ≠ "java/lang/invoke/VarHandle" ∧ (parseMethodDescriptor yX1_signOfSquare.desc).map (fun d => d.parameters.length) = some 3 := by decide +kernel
def wl_Gr_signOfSquare_38 (t_rows : IA) (a2 : Int32) (a3 : Int32) (Q : Int32 → Prop) (x4_1 : Int32) (x5_1 : Int32) (Kx_1 : Int32 → Prop) : Nat → Int32 → Prop
  | 0, _ => False
  | n + 1, x6_2 => ((a2 + a3) ≤ x6_2 → (Kx_1 x6_2)) ∧ (¬ (a2 + a3) ≤ x6_2 → ((16 ≤ x6_2 → (Kx_1 x6_2)) ∧ (¬ 16 ≤ x6_2 → (wp_Gr_row t_rows x6_2 (fun r_2 => ((r_2 &&& x4_1) = x5_1 → ((wl_Gr_signOfSquare_38 t_rows a2 a3 Q x4_1 x5_1 Kx_1 n) (x6_2 + 1))) ∧ (¬ (r_2 &&& x4_1) = x5_1 → (Q 2)))))))
def wj_Gr_signOfSquare_33 (t_rows : IA) (a2 : Int32) (a3 : Int32) (Q : Int32 → Prop) (x4_1 : Int32) (x5_1 : Int32) : Prop :=
  ∀ x6_1 : Int32, x6_1 = (a2 + 1) → (∃ k_1 : Nat, wl_Gr_signOfSquare_38 t_rows a2 a3 Q x4_1 x5_1 (fun (x6_3 : Int32) => (x5_1 = 0 → (Q 0)) ∧ (¬ x5_1 = 0 → (Q 1))) k_1 x6_1)
def wp_Gr_signOfSquare (t_rows : IA) (a1 : Int32) (a2 : Int32) (a3 : Int32) (Q : Int32 → Prop) : Prop :=
  ∀ x4_1 : Int32, x4_1 = (jshl ((jshl 1 a3) - 1) a1) → (wp_Gr_row t_rows a2 (fun r_1 => ∀ x5_1 : Int32, x5_1 = (r_1 &&& x4_1) → (jn (wj_Gr_signOfSquare_33 t_rows a2 a3 Q x4_1 x5_1) (fun K_1 : Prop => (x5_1 = 0 → (K_1)) ∧ (¬ x5_1 = 0 → ((x5_1 = x4_1 → (K_1)) ∧ (¬ x5_1 = x4_1 → (Q 2))))))))
set_option maxHeartbeats 4000000 in
theorem c_Gr_signOfSquare (l : Launch) (G : GG) (ad : Nat → Nat) (ws : va_W) (tb : Nat) {t_rows : IA} (hT : gR G ad ws tb t_rows)  (a1 : Int32) (a2 : Int32) (a3 : Int32) {Q : Int32 → Prop} (h : wp_Gr_signOfSquare t_rows a1 a2 a3 Q) : qm_MI l yX1_signOfSquare wsX1_signOfSquare rmX1_signOfSquare G [.ref (ad tb), .int a1, .int a2, .int a3] (ws) (fun (r : Int32) (_ : Unit) => Q r) (fun (_ : Unit) => ws) := by
  refine qm_mkI (cc := cX1_signOfSquare) (maxL := 7) (by decide) rfl (Nat.le_of_ble_eq_true rfl) ?_
  intro X C hret
  replace C : qm_C G 7 X cX1_signOfSquare wsX1_signOfSquare RX1 := C
  refine v_lv (lv' := [(0, .ref (ad tb)), (1, .int a1), (2, .int a2), (3, .int a3)]) rfl ?_
  unfold wp_Gr_signOfSquare at h
  refine v_iconst C 1 dX1_signOfSquare_0 (by decide) ?_
  refine v_iload_n C dX1_signOfSquare_1 rfl 3 rfl ?_
  refine v_ishl C dX1_signOfSquare_2 ?_
  refine v_iconst C 1 dX1_signOfSquare_3 (by decide) ?_
  refine v_isub C dX1_signOfSquare_4 ?_
  refine v_iload_n C dX1_signOfSquare_5 rfl 1 rfl ?_
  refine v_ishl C dX1_signOfSquare_6 ?_
  refine v_topi (fun x4_1 ex4_1 => ?_)
  replace h := h x4_1 ex4_1
  refine v_istore C [(4, .int x4_1), (0, .ref (ad tb)), (1, .int a1), (2, .int a2), (3, .int a3)] dX1_signOfSquare_7 (by decide) rfl ?_
  refine v_aload_n C dX1_signOfSquare_9 rfl 1 rfl ?_
  refine v_iload_n C dX1_signOfSquare_10 rfl 3 rfl ?_
  refine v_callVi C (c_Gr_row l G ad (ws) tb hT  a2 h) tb hT.1 rfl gX1_signOfSquare_X1_row rfl kX1_row ⟨rfl, rfl⟩ ⟨Nat.le_of_ble_eq_true rfl, Nat.le_of_ble_eq_true rfl⟩ rfl (Nat.le_of_ble_eq_true rfl) dX1_signOfSquare_11 (fun r_1 _ h => ?_)
  try dsimp only at h
  refine v_iload C dX1_signOfSquare_14 0 rfl ?_
  refine v_iand C dX1_signOfSquare_16 ?_
  refine v_topi (fun x5_1 ex5_1 => ?_)
  replace h := h x5_1 ex5_1
  refine v_istore C [(5, .int x5_1), (4, .int x4_1), (0, .ref (ad tb)), (1, .int a1), (2, .int a2), (3, .int a3)] dX1_signOfSquare_17 (by decide) rfl ?_
  refine v_iload C dX1_signOfSquare_19 0 rfl ?_
  have hJ_1 : (wj_Gr_signOfSquare_33 t_rows a2 a3 Q x4_1 x5_1) → qm_V l G rmX1_signOfSquare 7 X (ws) [(5, .int x5_1), (4, .int x4_1), (0, .ref (ad tb)), (1, .int a1), (2, .int a2), (3, .int a3)] 33 [] := by
    intro h
    unfold wj_Gr_signOfSquare_33 at h
    refine v_iload_n C dX1_signOfSquare_33 rfl 4 rfl ?_
    refine v_iconst C 1 dX1_signOfSquare_34 (by decide) ?_
    refine v_iadd C dX1_signOfSquare_35 ?_
    refine v_topi (fun x6_1 ex6_1 => ?_)
    replace h := h x6_1 ex6_1
    refine v_istore C [(6, .int x6_1), (5, .int x5_1), (4, .int x4_1), (0, .ref (ad tb)), (1, .int a1), (2, .int a2), (3, .int a3)] dX1_signOfSquare_36 (by decide) rfl ?_
    have hx_1 : ∀ (x6_3 : Int32), (fun (x6_3 : Int32) => (x5_1 = 0 → (Q 0)) ∧ (¬ x5_1 = 0 → (Q 1))) x6_3 → qm_V l G rmX1_signOfSquare 7 X (ws) [(6, .int x6_3), (5, .int x5_1), (4, .int x4_1), (0, .ref (ad tb)), (1, .int a1), (2, .int a2), (3, .int a3)] 75 [] := by
      intro x6_3 h
      try dsimp only at h
      refine v_iload C dX1_signOfSquare_75 1 rfl ?_
      refine v_if_ne C 84 dX1_signOfSquare_77 (by decide) (fun c_1 => ?_) (fun c_1 => ?_)
      · replace h := h.2 c_1
        refine v_iconst C 1 dX1_signOfSquare_84 (by decide) ?_
        exact hret _ _ _ 1 () h rfl dX1_signOfSquare_85
      · replace h := h.1 c_1
        refine v_iconst C 0 dX1_signOfSquare_80 (by decide) ?_
        refine v_goto C 85 dX1_signOfSquare_81 (by decide) ?_
        exact hret _ _ _ 0 () h rfl dX1_signOfSquare_85
    have hl_1 : ∀ n_1 : Nat, ∀ (x6_2 : Int32), wl_Gr_signOfSquare_38 t_rows a2 a3 Q x4_1 x5_1 (fun (x6_3 : Int32) => (x5_1 = 0 → (Q 0)) ∧ (¬ x5_1 = 0 → (Q 1))) n_1 x6_2 → qm_V l G rmX1_signOfSquare 7 X (ws) [(6, .int x6_2), (5, .int x5_1), (4, .int x4_1), (0, .ref (ad tb)), (1, .int a1), (2, .int a2), (3, .int a3)] 38 [] := by
      intro n_1
      induction n_1 with
      | zero =>
        intro x6_2 h
        exact False.elim h
      | succ n_1 ih_1 =>
        intro x6_2 h
        rw [wl_Gr_signOfSquare_38] at h
        refine v_iload C dX1_signOfSquare_38 0 rfl ?_
        refine v_iload_n C dX1_signOfSquare_40 rfl 5 rfl ?_
        refine v_iload_n C dX1_signOfSquare_41 rfl 6 rfl ?_
        refine v_iadd C dX1_signOfSquare_42 ?_
        refine v_icmp_ge C 75 dX1_signOfSquare_43 (by decide) (fun c_4 => ?_) (fun c_4 => ?_)
        · replace h := h.1 c_4
          exact hx_1 x6_2 h
        · replace h := h.2 c_4
          refine v_iload C dX1_signOfSquare_46 0 rfl ?_
          refine v_bipush C 16 dX1_signOfSquare_48 (by decide) ?_
          refine v_icmp_ge C 75 dX1_signOfSquare_50 (by decide) (fun c_3 => ?_) (fun c_3 => ?_)
          · replace h := h.1 c_3
            exact hx_1 x6_2 h
          · replace h := h.2 c_3
            refine v_aload_n C dX1_signOfSquare_53 rfl 3 rfl ?_
            refine v_iload C dX1_signOfSquare_54 0 rfl ?_
            refine v_callVi C (c_Gr_row l G ad (ws) tb hT  x6_2 h) tb hT.1 rfl gX1_signOfSquare_X1_row rfl kX1_row ⟨rfl, rfl⟩ ⟨Nat.le_of_ble_eq_true rfl, Nat.le_of_ble_eq_true rfl⟩ rfl (Nat.le_of_ble_eq_true rfl) dX1_signOfSquare_56 (fun r_2 _ h => ?_)
            try dsimp only at h
            refine v_iload C dX1_signOfSquare_59 2 rfl ?_
            refine v_iand C dX1_signOfSquare_61 ?_
            refine v_iload C dX1_signOfSquare_62 1 rfl ?_
            refine v_icmp_eq C 69 dX1_signOfSquare_64 (by decide) (fun c_2 => ?_) (fun c_2 => ?_)
            · replace h := h.1 c_2
              refine v_iinc C (x6_2 + 1) 0 [(6, .int (x6_2 + 1)), (5, .int x5_1), (4, .int x4_1), (0, .ref (ad tb)), (1, .int a1), (2, .int a2), (3, .int a3)] dX1_signOfSquare_69 rfl rfl (by decide) rfl ?_
              refine v_goto C 38 dX1_signOfSquare_72 (by decide) ?_
              exact ih_1 (x6_2 + 1) h
            · replace h := h.2 c_2
              refine v_iconst C 2 dX1_signOfSquare_67 (by decide) ?_
              exact hret _ _ _ 2 () h rfl dX1_signOfSquare_68
    obtain ⟨k_1, h⟩ := h
    exact hl_1 k_1 x6_1 h
  replace h := jn_use h
  try dsimp only at h
  refine v_if_eq C 33 dX1_signOfSquare_21 (by decide) (fun c_6 => ?_) (fun c_6 => ?_)
  · replace h := h.1 c_6
    exact hJ_1 h
  · replace h := h.2 c_6
    refine v_iload C dX1_signOfSquare_24 0 rfl ?_
    refine v_iload C dX1_signOfSquare_26 1 rfl ?_
    refine v_icmp_eq C 33 dX1_signOfSquare_28 (by decide) (fun c_5 => ?_) (fun c_5 => ?_)
    · replace h := h.1 c_5
      exact hJ_1 h
    · replace h := h.2 c_5
      refine v_iconst C 2 dX1_signOfSquare_31 (by decide) ?_
      exact hret _ _ _ 2 () h rfl dX1_signOfSquare_32
-- QuarterMasks$Grid.sideOfBlock
def rmX1_sideOfBlock : Room := { frames := 3, cells := 0, slots := 0, locals := 87 }
theorem kX1_sideOfBlock : yX1_sideOfBlock.cls = RX1 ∧ yX1_sideOfBlock.cls ≠ "java/lang/invoke/MethodHandle" ∧ yX1_sideOfBlock.cls ≠ "java/lang/invoke/VarHandle" ∧ (parseMethodDescriptor yX1_sideOfBlock.desc).map (fun d => d.parameters.length) = some 2 := by decide +kernel
def wl_Gr_sideOfBlock_3 (t_rows : IA) (a1 : Int32) (a2 : Int32) (Q : Int32 → Prop) : Nat → Int32 → Prop
  | 0, _ => False
  | n + 1, x3_1 => (x3_1 ≤ 1 → (Q 1)) ∧ (¬ x3_1 ≤ 1 → (wp_Gr_signOfSquare t_rows (a1 &&& (-x3_1)) (a2 &&& (-x3_1)) x3_1 (fun r_1 => (r_1 = 2 → (∀ x3_2 : Int32, x3_2 = (x3_1 / 2) → ((wl_Gr_sideOfBlock_3 t_rows a1 a2 Q n) x3_2))) ∧ (¬ r_1 = 2 → (Q x3_1)))))
def wp_Gr_sideOfBlock (t_rows : IA) (a1 : Int32) (a2 : Int32) (Q : Int32 → Prop) : Prop :=
  ∃ k_1 : Nat, wl_Gr_sideOfBlock_3 t_rows a1 a2 Q k_1 16
set_option maxHeartbeats 4000000 in
theorem c_Gr_sideOfBlock (l : Launch) (G : GG) (ad : Nat → Nat) (ws : va_W) (tb : Nat) {t_rows : IA} (hT : gR G ad ws tb t_rows)  (a1 : Int32) (a2 : Int32) {Q : Int32 → Prop} (h : wp_Gr_sideOfBlock t_rows a1 a2 Q) : qm_MI l yX1_sideOfBlock wsX1_sideOfBlock rmX1_sideOfBlock G [.ref (ad tb), .int a1, .int a2] (ws) (fun (r : Int32) (_ : Unit) => Q r) (fun (_ : Unit) => ws) := by
  refine qm_mkI (cc := cX1_sideOfBlock) (maxL := 4) (by decide) rfl (Nat.le_of_ble_eq_true rfl) ?_
  intro X C hret
  replace C : qm_C G 4 X cX1_sideOfBlock wsX1_sideOfBlock RX1 := C
  refine v_lv (lv' := [(0, .ref (ad tb)), (1, .int a1), (2, .int a2)]) rfl ?_
  unfold wp_Gr_sideOfBlock at h
  refine v_bipush C 16 dX1_sideOfBlock_0 (by decide) ?_
  refine v_istore_n C [(3, .int 16), (0, .ref (ad tb)), (1, .int a1), (2, .int a2)] dX1_sideOfBlock_2 rfl (by decide) rfl ?_
  have hl_1 : ∀ n_1 : Nat, ∀ (x3_1 : Int32), wl_Gr_sideOfBlock_3 t_rows a1 a2 Q n_1 x3_1 → qm_V l G rmX1_sideOfBlock 4 X (ws) [(3, .int x3_1), (0, .ref (ad tb)), (1, .int a1), (2, .int a2)] 3 [] := by
    intro n_1
    induction n_1 with
    | zero =>
      intro x3_1 h
      exact False.elim h
    | succ n_1 ih_1 =>
      intro x3_1 h
      rw [wl_Gr_sideOfBlock_3] at h
      refine v_iload_n C dX1_sideOfBlock_3 rfl 0 rfl ?_
      refine v_iconst C 1 dX1_sideOfBlock_4 (by decide) ?_
      refine v_icmp_le C 34 dX1_sideOfBlock_5 (by decide) (fun c_2 => ?_) (fun c_2 => ?_)
      · replace h := h.1 c_2
        refine v_iconst C 1 dX1_sideOfBlock_34 (by decide) ?_
        exact hret _ _ _ 1 () h rfl dX1_sideOfBlock_35
      · replace h := h.2 c_2
        refine v_aload_n C dX1_sideOfBlock_8 rfl 1 rfl ?_
        refine v_iload_n C dX1_sideOfBlock_9 rfl 2 rfl ?_
        refine v_iload_n C dX1_sideOfBlock_10 rfl 0 rfl ?_
        refine v_ineg C dX1_sideOfBlock_11 ?_
        refine v_iand C dX1_sideOfBlock_12 ?_
        refine v_iload_n C dX1_sideOfBlock_13 rfl 3 rfl ?_
        refine v_iload_n C dX1_sideOfBlock_14 rfl 0 rfl ?_
        refine v_ineg C dX1_sideOfBlock_15 ?_
        refine v_iand C dX1_sideOfBlock_16 ?_
        refine v_iload_n C dX1_sideOfBlock_17 rfl 0 rfl ?_
        refine v_callVi C (c_Gr_signOfSquare l G ad (ws) tb hT  (a1 &&& (-x3_1)) (a2 &&& (-x3_1)) x3_1 h) tb hT.1 rfl gX1_sideOfBlock_X1_signOfSquare rfl kX1_signOfSquare ⟨rfl, rfl⟩ ⟨Nat.le_of_ble_eq_true rfl, Nat.le_of_ble_eq_true rfl⟩ rfl (Nat.le_of_ble_eq_true rfl) dX1_sideOfBlock_18 (fun r_1 _ h => ?_)
        try dsimp only at h
        refine v_iconst C 2 dX1_sideOfBlock_21 (by decide) ?_
        refine v_icmp_eq C 27 dX1_sideOfBlock_22 (by decide) (fun c_1 => ?_) (fun c_1 => ?_)
        · replace h := h.1 c_1
          refine v_iload_n C dX1_sideOfBlock_27 rfl 0 rfl ?_
          refine v_iconst C 2 dX1_sideOfBlock_28 (by decide) ?_
          refine v_idiv C dX1_sideOfBlock_29 (by decide) ?_
          refine v_topi (fun x3_2 ex3_2 => ?_)
          replace h := h x3_2 ex3_2
          refine v_istore_n C [(3, .int x3_2), (0, .ref (ad tb)), (1, .int a1), (2, .int a2)] dX1_sideOfBlock_30 rfl (by decide) rfl ?_
          refine v_goto C 3 dX1_sideOfBlock_31 (by decide) ?_
          exact ih_1 x3_2 h
        · replace h := h.2 c_1
          refine v_iload_n C dX1_sideOfBlock_25 rfl 0 rfl ?_
          exact hret _ _ _ x3_1 () h rfl dX1_sideOfBlock_26
  obtain ⟨k_1, h⟩ := h
  exact hl_1 k_1 16 h
-- QuarterMasks$Grid.gapInRow
def rmX1_gapInRow : Room := { frames := 1, cells := 0, slots := 0, locals := 40 }
theorem kX1_gapInRow : yX1_gapInRow.cls ≠ "java/lang/invoke/MethodHandle" ∧ yX1_gapInRow.cls ≠ "java/lang/invoke/VarHandle" ∧ (parseMethodDescriptor yX1_gapInRow.desc).map (fun d => d.parameters.length) = some 2 := by decide +kernel
def wl_Gr_gapInRow_6 (a0 : Int32) (Q : Int32 → Prop) : Nat → Int32 → Int32 → Prop
  | 0, _, _ => False
  | n + 1, x3_1, x2_2 => (16 ≤ x3_1 → (Q (-1))) ∧ (¬ 16 ≤ x3_1 → ((a0 = 0 → (Q (-1))) ∧ (¬ a0 = 0 → (((a0 &&& x2_2) = 0 → (∀ x2_3 : Int32, x2_3 = (x2_2 ||| ((jshl x2_2 1) ||| (jush x2_2 1))) → ((wl_Gr_gapInRow_6 a0 Q n) (x3_1 + 1) x2_3))) ∧ (¬ (a0 &&& x2_2) = 0 → (Q x3_1))))))
def wp_Gr_gapInRow  (a0 : Int32) (a1 : Int32) (Q : Int32 → Prop) : Prop :=
  ∀ x2_1 : Int32, x2_1 = (jshl 1 a1) → (∃ k_1 : Nat, wl_Gr_gapInRow_6 a0 Q k_1 0 x2_1)
set_option maxHeartbeats 4000000 in
theorem c_Gr_gapInRow (l : Launch) (G : GG) (ws : va_W)  (a0 : Int32) (a1 : Int32) {Q : Int32 → Prop} (h : wp_Gr_gapInRow a0 a1 Q) : qm_MI l yX1_gapInRow wsX1_gapInRow rmX1_gapInRow G [.int a0, .int a1] (ws) (fun (r : Int32) (_ : Unit) => Q r) (fun (_ : Unit) => ws) := by
  refine qm_mkI (cc := cX1_gapInRow) (maxL := 4) (by decide) rfl (Nat.le_of_ble_eq_true rfl) ?_
  intro X C hret
  replace C : qm_C G 4 X cX1_gapInRow wsX1_gapInRow RX1 := C
  refine v_lv (lv' := [(0, .int a0), (1, .int a1)]) rfl ?_
  unfold wp_Gr_gapInRow at h
  refine v_iconst C 1 dX1_gapInRow_0 (by decide) ?_
  refine v_iload_n C dX1_gapInRow_1 rfl 1 rfl ?_
  refine v_ishl C dX1_gapInRow_2 ?_
  refine v_topi (fun x2_1 ex2_1 => ?_)
  replace h := h x2_1 ex2_1
  refine v_istore_n C [(2, .int x2_1), (0, .int a0), (1, .int a1)] dX1_gapInRow_3 rfl (by decide) rfl ?_
  refine v_iconst C 0 dX1_gapInRow_4 (by decide) ?_
  refine v_istore_n C [(3, .int 0), (2, .int x2_1), (0, .int a0), (1, .int a1)] dX1_gapInRow_5 rfl (by decide) rfl ?_
  have hl_1 : ∀ n_1 : Nat, ∀ (x3_1 : Int32) (x2_2 : Int32), wl_Gr_gapInRow_6 a0 Q n_1 x3_1 x2_2 → qm_V l G rmX1_gapInRow 4 X (ws) [(3, .int x3_1), (2, .int x2_2), (0, .int a0), (1, .int a1)] 6 [] := by
    intro n_1
    induction n_1 with
    | zero =>
      intro x3_1 x2_2 h
      exact False.elim h
    | succ n_1 ih_1 =>
      intro x3_1 x2_2 h
      rw [wl_Gr_gapInRow_6] at h
      refine v_iload_n C dX1_gapInRow_6 rfl 0 rfl ?_
      refine v_bipush C 16 dX1_gapInRow_7 (by decide) ?_
      refine v_icmp_ge C 40 dX1_gapInRow_9 (by decide) (fun c_3 => ?_) (fun c_3 => ?_)
      · replace h := h.1 c_3
        refine v_iconst C (-1) dX1_gapInRow_40 (by decide) ?_
        exact hret _ _ _ (-1) () h rfl dX1_gapInRow_41
      · replace h := h.2 c_3
        refine v_iload_n C dX1_gapInRow_12 rfl 2 rfl ?_
        refine v_if_eq C 40 dX1_gapInRow_13 (by decide) (fun c_2 => ?_) (fun c_2 => ?_)
        · replace h := h.1 c_2
          refine v_iconst C (-1) dX1_gapInRow_40 (by decide) ?_
          exact hret _ _ _ (-1) () h rfl dX1_gapInRow_41
        · replace h := h.2 c_2
          refine v_iload_n C dX1_gapInRow_16 rfl 2 rfl ?_
          refine v_iload_n C dX1_gapInRow_17 rfl 1 rfl ?_
          refine v_iand C dX1_gapInRow_18 ?_
          refine v_if_eq C 24 dX1_gapInRow_19 (by decide) (fun c_1 => ?_) (fun c_1 => ?_)
          · replace h := h.1 c_1
            refine v_iload_n C dX1_gapInRow_24 rfl 1 rfl ?_
            refine v_iload_n C dX1_gapInRow_25 rfl 1 rfl ?_
            refine v_iconst C 1 dX1_gapInRow_26 (by decide) ?_
            refine v_ishl C dX1_gapInRow_27 ?_
            refine v_iload_n C dX1_gapInRow_28 rfl 1 rfl ?_
            refine v_iconst C 1 dX1_gapInRow_29 (by decide) ?_
            refine v_iushr C dX1_gapInRow_30 ?_
            refine v_ior C dX1_gapInRow_31 ?_
            refine v_ior C dX1_gapInRow_32 ?_
            refine v_topi (fun x2_3 ex2_3 => ?_)
            replace h := h x2_3 ex2_3
            refine v_istore_n C [(2, .int x2_3), (3, .int x3_1), (0, .int a0), (1, .int a1)] dX1_gapInRow_33 rfl (by decide) rfl ?_
            refine v_iinc C (x3_1 + 1) 1 [(3, .int (x3_1 + 1)), (2, .int x2_3), (0, .int a0), (1, .int a1)] dX1_gapInRow_34 rfl rfl (by decide) rfl ?_
            refine v_goto C 6 dX1_gapInRow_37 (by decide) ?_
            exact ih_1 (x3_1 + 1) x2_3 h
          · replace h := h.2 c_1
            refine v_iload_n C dX1_gapInRow_22 rfl 0 rfl ?_
            exact hret _ _ _ x3_1 () h rfl dX1_gapInRow_23
  obtain ⟨k_1, h⟩ := h
  exact hl_1 k_1 0 x2_1 h
-- QuarterMasks$Grid.distanceFrom
def rmX1_distanceFrom : Room := { frames := 2, cells := 0, slots := 0, locals := 63 }
theorem kX1_distanceFrom : yX1_distanceFrom.cls = RX1 ∧ yX1_distanceFrom.cls ≠ "java/lang/invoke/MethodHandle" ∧ yX1_distanceFrom.cls ≠ "java/lang/invoke/VarHandle" ∧ (parseMethodDescriptor yX1_distanceFrom.desc).map (fun d => d.parameters.length) = some 2 := by decide +kernel
theorem mX1_distanceFrom_w1 : Cond.fieldLink RX1 9 "QuarterMasks$Grid" "rows" "[I" ∈ wsX1_distanceFrom := List.mem_of_getElem? (i := 1) rfl
theorem iX1_distanceFrom_1 : ∀ w ∈ wsX10, w ∈ wsX1_distanceFrom := fun w h => List.mem_cons_of_mem _ (List.mem_append_right _ h)
theorem mX1_distanceFrom_w2 : Cond.methodLink RX1 51 Lib.Math.abs.name ∈ wsX1_distanceFrom := List.mem_of_getElem? (i := 2) rfl
theorem mX1_distanceFrom_w3 : Cond.static Lib.Math.abs.name ∈ wsX1_distanceFrom := List.mem_of_getElem? (i := 3) rfl
theorem mX1_distanceFrom_w4 : Cond.initialized "java/lang/Math" ∈ wsX1_distanceFrom := List.mem_of_getElem? (i := 4) rfl
theorem mX1_distanceFrom_w5 : Cond.code Lib.Math.abs.name Lib.Math.abs.code 1 (some .int) ∈ wsX1_distanceFrom := List.mem_of_getElem? (i := 5) rfl
def wl_Gr_distanceFrom_5 (t_rows : IA) (a1 : Int32) (a2 : Int32) (Q : Int32 → Prop) : Nat → Int32 → Int32 → Prop
  | 0, _, _ => False
  | n + 1, x4_1, x3_1 => (16 ≤ x4_1 → (Q x3_1)) ∧ (¬ 16 ≤ x4_1 → (vp_in x4_1 16 ∧ (wp_Gr_gapInRow (t_rows x4_1.toNatClampNeg) a1 (fun r_1 => ∀ x6_1 : Int32, x6_1 = (r_1 + (jabs (x4_1 - a2))) → (jn (fun (x3_2 : Int32) => (wl_Gr_distanceFrom_5 t_rows a1 a2 Q n) (x4_1 + 1) x3_2) (fun K_1 : Int32 → Prop => (r_1 = (-1) → (K_1 x3_1)) ∧ (¬ r_1 = (-1) → (jn (K_1 x6_1) (fun K_2 : Prop => (x3_1 = (-1) → (K_2)) ∧ (¬ x3_1 = (-1) → ((x3_1 ≤ x6_1 → (K_1 x3_1)) ∧ (¬ x3_1 ≤ x6_1 → (K_2)))))))))))))
def wp_Gr_distanceFrom (t_rows : IA) (a1 : Int32) (a2 : Int32) (Q : Int32 → Prop) : Prop :=
  ∃ k_1 : Nat, wl_Gr_distanceFrom_5 t_rows a1 a2 Q k_1 0 (-1)
set_option maxHeartbeats 4000000 in
theorem c_Gr_distanceFrom (l : Launch) (G : GG) (ad : Nat → Nat) (ws : va_W) (tb : Nat) {t_rows : IA} (hT : gR G ad ws tb t_rows)  (a1 : Int32) (a2 : Int32) {Q : Int32 → Prop} (h : wp_Gr_distanceFrom t_rows a1 a2 Q) : qm_MI l yX1_distanceFrom wsX1_distanceFrom rmX1_distanceFrom G [.ref (ad tb), .int a1, .int a2] (ws) (fun (r : Int32) (_ : Unit) => Q r) (fun (_ : Unit) => ws) := by
  refine qm_mkI (cc := cX1_distanceFrom) (maxL := 7) (by decide) rfl (Nat.le_of_ble_eq_true rfl) ?_
  intro X C hret
  replace C : qm_C G 7 X cX1_distanceFrom wsX1_distanceFrom RX1 := C
  refine v_lv (lv' := [(0, .ref (ad tb)), (1, .int a1), (2, .int a2)]) rfl ?_
  unfold wp_Gr_distanceFrom at h
  refine v_iconst C (-1) dX1_distanceFrom_0 (by decide) ?_
  refine v_istore_n C [(3, .int (-1)), (0, .ref (ad tb)), (1, .int a1), (2, .int a2)] dX1_distanceFrom_1 rfl (by decide) rfl ?_
  refine v_iconst C 0 dX1_distanceFrom_2 (by decide) ?_
  refine v_istore C [(4, .int 0), (3, .int (-1)), (0, .ref (ad tb)), (1, .int a1), (2, .int a2)] dX1_distanceFrom_3 (by decide) rfl ?_
  have hl_1 : ∀ n_1 : Nat, ∀ (x4_1 : Int32) (x3_1 : Int32), wl_Gr_distanceFrom_5 t_rows a1 a2 Q n_1 x4_1 x3_1 → qm_V l G rmX1_distanceFrom 7 X (ws) [(4, .int x4_1), (3, .int x3_1), (0, .ref (ad tb)), (1, .int a1), (2, .int a2)] 5 [] := by
    intro n_1
    induction n_1 with
    | zero =>
      intro x4_1 x3_1 h
      exact False.elim h
    | succ n_1 ih_1 =>
      intro x4_1 x3_1 h
      rw [wl_Gr_distanceFrom_5] at h
      refine v_iload C dX1_distanceFrom_5 0 rfl ?_
      refine v_bipush C 16 dX1_distanceFrom_7 (by decide) ?_
      refine v_icmp_ge C 63 dX1_distanceFrom_9 (by decide) (fun c_4 => ?_) (fun c_4 => ?_)
      · replace h := h.1 c_4
        refine v_iload_n C dX1_distanceFrom_63 rfl 1 rfl ?_
        exact hret _ _ _ x3_1 () h rfl dX1_distanceFrom_64
      · replace h := h.2 c_4
        refine v_aload_n C dX1_distanceFrom_12 rfl 2 rfl ?_
        refine v_get C iX1_distanceFrom_1 tb hT.1 rfl 0 (by decide) mX1_distanceFrom_w1 rfl rfl dX1_distanceFrom_13 ?_
        refine v_iload C dX1_distanceFrom_16 0 rfl ?_
        obtain ⟨hin_1, h⟩ := h
        refine v_iald C (tb + 1) hT.2 hin_1 dX1_distanceFrom_18 ?_
        refine v_iload_n C dX1_distanceFrom_19 rfl 3 rfl ?_
        refine v_callSi C (c_Gr_gapInRow l G (ws) (t_rows x4_1.toNatClampNeg) a1 h) gX1_distanceFrom_X1_gapInRow rfl kX1_gapInRow ⟨rfl, rfl⟩ ⟨Nat.le_of_ble_eq_true rfl, Nat.le_of_ble_eq_true rfl⟩ rfl (Nat.le_of_ble_eq_true rfl) dX1_distanceFrom_20 (fun r_1 _ h => ?_)
        try dsimp only at h
        refine v_istore C [(5, .int r_1), (4, .int x4_1), (3, .int x3_1), (0, .ref (ad tb)), (1, .int a1), (2, .int a2)] dX1_distanceFrom_23 (by decide) rfl ?_
        refine v_iload C dX1_distanceFrom_25 0 rfl ?_
        refine v_iload C dX1_distanceFrom_27 1 rfl ?_
        refine v_iload_n C dX1_distanceFrom_29 rfl 5 rfl ?_
        refine v_isub C dX1_distanceFrom_30 ?_
        refine v_mabs C (List.forall_mem_cons.mpr ⟨mX1_distanceFrom_w2, List.forall_mem_cons.mpr ⟨mX1_distanceFrom_w3, List.forall_mem_cons.mpr ⟨mX1_distanceFrom_w4, List.forall_mem_cons.mpr ⟨mX1_distanceFrom_w5, fun _ h => absurd h List.not_mem_nil⟩⟩⟩⟩) ⟨Nat.le_of_ble_eq_true rfl, Nat.le_of_ble_eq_true rfl⟩ (Nat.le_of_ble_eq_true rfl) dX1_distanceFrom_31 ?_
        refine v_iadd C dX1_distanceFrom_34 ?_
        refine v_topi (fun x6_1 ex6_1 => ?_)
        replace h := h x6_1 ex6_1
        refine v_istore C [(6, .int x6_1), (5, .int r_1), (4, .int x4_1), (3, .int x3_1), (0, .ref (ad tb)), (1, .int a1), (2, .int a2)] dX1_distanceFrom_35 (by decide) rfl ?_
        refine v_iload C dX1_distanceFrom_37 1 rfl ?_
        refine v_iconst C (-1) dX1_distanceFrom_39 (by decide) ?_
        have hJ_1 : ∀ (x3_2 : Int32), (fun (x3_2 : Int32) => (wl_Gr_distanceFrom_5 t_rows a1 a2 Q n_1) (x4_1 + 1) x3_2) x3_2 → qm_V l G rmX1_distanceFrom 7 X (ws) [(6, .int x6_1), (5, .int r_1), (4, .int x4_1), (3, .int x3_2), (0, .ref (ad tb)), (1, .int a1), (2, .int a2)] 57 [] := by
          intro x3_2 h
          try dsimp only at h
          refine v_iinc C (x4_1 + 1) 2 [(4, .int (x4_1 + 1)), (6, .int x6_1), (5, .int r_1), (3, .int x3_2), (0, .ref (ad tb)), (1, .int a1), (2, .int a2)] dX1_distanceFrom_57 rfl rfl (by decide) rfl ?_
          refine v_goto C 5 dX1_distanceFrom_60 (by decide) ?_
          refine v_perm [0, 3, 4, 5, 6] rfl ?_
          exact ih_1 (x4_1 + 1) x3_2 h
        replace h := jn_use h
        try dsimp only at h
        refine v_icmp_eq C 57 dX1_distanceFrom_40 (by decide) (fun c_3 => ?_) (fun c_3 => ?_)
        · replace h := h.1 c_3
          exact hJ_1 x3_1 h
        · replace h := h.2 c_3
          refine v_iload_n C dX1_distanceFrom_43 rfl 3 rfl ?_
          refine v_iconst C (-1) dX1_distanceFrom_44 (by decide) ?_
          have hJ_2 : ((fun (x3_2 : Int32) => (wl_Gr_distanceFrom_5 t_rows a1 a2 Q n_1) (x4_1 + 1) x3_2) x6_1) → qm_V l G rmX1_distanceFrom 7 X (ws) [(6, .int x6_1), (5, .int r_1), (4, .int x4_1), (3, .int x3_1), (0, .ref (ad tb)), (1, .int a1), (2, .int a2)] 54 [] := by
            intro h
            try dsimp only at h
            refine v_iload C dX1_distanceFrom_54 0 rfl ?_
            refine v_istore_n C [(3, .int x6_1), (6, .int x6_1), (5, .int r_1), (4, .int x4_1), (0, .ref (ad tb)), (1, .int a1), (2, .int a2)] dX1_distanceFrom_56 rfl (by decide) rfl ?_
            refine v_perm [1, 2, 3, 0, 4, 5, 6] rfl ?_
            exact hJ_1 x6_1 h
          replace h := jn_use h
          try dsimp only at h
          refine v_icmp_eq C 54 dX1_distanceFrom_45 (by decide) (fun c_2 => ?_) (fun c_2 => ?_)
          · replace h := h.1 c_2
            exact hJ_2 h
          · replace h := h.2 c_2
            refine v_iload C dX1_distanceFrom_48 0 rfl ?_
            refine v_iload_n C dX1_distanceFrom_50 rfl 3 rfl ?_
            refine v_icmp_ge C 57 dX1_distanceFrom_51 (by decide) (fun c_1 => ?_) (fun c_1 => ?_)
            · replace h := h.1 c_1
              exact hJ_1 x3_1 h
            · replace h := h.2 c_1
              exact hJ_2 h
  obtain ⟨k_1, h⟩ := h
  exact hl_1 k_1 0 (-1) h
