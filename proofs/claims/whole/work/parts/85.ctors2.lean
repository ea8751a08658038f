/-! THE CONSTRUCTORS: the class's own -/
section ILOOPS
variable {p : Program} {l : Launch} {e : Env} {R : Room} {s : State} {m : MethodId} {args : Array Value} {below : List Frame} {meth : Method} {c : Code} {H : Heap} {locs : List Loc} {cells slots : Nat} {Q : State → Prop} {D : va_G} {cy : Nat → ClassId} {A : Nat → Prop} {wr : va_W} {tys : List (ClassId × FieldType)} {ls : Array Slot}
set_option maxHeartbeats 4000000 in
theorem it_map (B : iB p s m c args cX4_init 2 RX4 D cy) (hA : ∀ q, s.heap.size ≤ q → A q) {h0 q1 : Nat} {cA : ClassId} {fs : List Value} {f : Nat → Option Nat} {j : Nat} (hj : j < 3) (h : iH D A s ((h0, .inr (4, fs)) :: (q1, .inl (cA, 3, .inr (.inr (.inr (.inr f))))) :: wr) tys H locs) (hf0 : fs[0]? = some (.ref q1)) (ht : tys[0]? = some (cA, .object RX2)) (hl : lv_has ls 2 [(1, .int (nI j)), (0, .ref h0)]) (hR : 2 ≤ R.frames ∧ 32 ≤ R.locals) (hcc : cells + 3 ≤ R.cells) (hss : slots + 243 ≤ R.slots)
    (kk : ∀ (q : Nat) (u : Nat × Nat) (H1 : Heap) (locs1 : List Loc) (ls1 : Array Slot), iH D A s ((h0, .inr (4, fs)) :: (q1, .inl (cA, 3, .inr (.inr (.inr (.inr (va_up f j (some q))))))) :: (wr ++ (iT cy q u))) tys H1 locs1 → lv_has ls1 2 [(1, .int (nI (j + 1))), (0, .ref h0)] → W p l e R s m args below meth c H1 locs1 (cells + 3) (slots + 243) Q (F0 m 49 ls1 [])) : W p l e R s m args below meth c H locs cells slots Q (F0 m 49 ls []) := by
  have hx := B.1
  have hb := B.2.1
  refine lv_iload_n hx hb dX4_init_49 rfl (lv_at hl 0 rfl) ?_
  refine lv_aload_n hx hb dX4_init_50 rfl (lv_at hl 1 rfl) ?_
  refine i_get B h 0 rfl rfl hin_X4 0 (by decide) hw127 rfl hf0 dX4_init_51 ?_
  refine va_alen (v := nI 3) hx hb h.2.2.2 h.1 1 0 rfl ht rfl dX4_init_54 ?_
  refine lv_icmp_ge (tgt := 77) hx hb dX4_init_55 (by decide) (fun g => absurd g (nI_ge hj (by omega))) (fun _ => ?_)
  refine lv_aload_n hx hb dX4_init_58 rfl (lv_at hl 1 rfl) ?_
  refine i_get B h 0 rfl rfl hin_X4 0 (by decide) hw127 rfl hf0 dX4_init_59 ?_
  refine lv_iload_n hx hb dX4_init_62 rfl (lv_at hl 0 rfl) ?_
  refine i_new B h hA hin_X2 tyX2 tyX2_ok iw27 iw40 hw3 (ci := 2) rfl fsT (by omega) (by omega) dX4_init_63 (fun q H1 h1 => ?_)
  refine lv_dup hx hb dX4_init_66 rfl ?_
  refine i_nest B h1 hA (c_T l D cy q) iw43 (List.mem_of_getElem? (i := 3) rfl) hw3 iw42 rfl dI ⟨by omega, by omega⟩ hl.1 (Nat.le_of_ble_eq_true rfl) dX4_init_67 ⟨by omega, by omega⟩ (fun u H2 locs2 h2 _ => ?_)
  refine i_astq (r := (RX2, TX2, 3)) B h2 1 0 ((h0, .inr (4, fs)) :: (q1, .inl (cA, 3, .inr (.inr (.inr (.inr f))))) :: wr).length 2 rfl ht last_at rfl hj (by omega) dX4_init_70 (fun H3 locs3 h3 => ?_)
  refine lv_iinc (k := 0) (lv' := [(1, .int (nI (j + 1))), (0, .ref h0)]) hx hb dX4_init_71 hl rfl (nI_1 j) (by decide) rfl (fun ls1 hl1 => ?_)
  refine lv_goto (tgt := 49) hx hb dX4_init_74 (by decide) ?_
  exact W.widen (k := cells + 3) (n := slots + 243) (by omega) (by omega) (kk q u H3 locs3 ls1 h3 hl1)
set_option maxHeartbeats 4000000 in
theorem ix_map (B : iB p s m c args cX4_init 2 RX4 D cy) {h0 q1 : Nat} {cA : ClassId} {fs : List Value} {f : Nat → Option Nat} (h : iH D A s ((h0, .inr (4, fs)) :: (q1, .inl (cA, 3, .inr (.inr (.inr (.inr f))))) :: wr) tys H locs) (hf0 : fs[0]? = some (.ref q1)) (ht : tys[0]? = some (cA, .object RX2)) (hl : lv_has ls 2 [(1, .int (nI 3)), (0, .ref h0)])
    (kk : ∀ (ls1 : Array Slot), lv_has ls1 2 [(1, .int (nI 0)), (0, .ref h0)] → W p l e R s m args below meth c H locs cells slots Q (F0 m 79 ls1 [])) : W p l e R s m args below meth c H locs cells slots Q (F0 m 49 ls []) := by
  have hx := B.1
  have hb := B.2.1
  refine lv_iload_n hx hb dX4_init_49 rfl (lv_at hl 0 rfl) ?_
  refine lv_aload_n hx hb dX4_init_50 rfl (lv_at hl 1 rfl) ?_
  refine i_get B h 0 rfl rfl hin_X4 0 (by decide) hw127 rfl hf0 dX4_init_51 ?_
  refine va_alen (v := nI 3) hx hb h.2.2.2 h.1 1 0 rfl ht rfl dX4_init_54 ?_
  refine lv_icmp_ge (tgt := 77) hx hb dX4_init_55 (by decide) (fun _ => ?_) (fun g => absurd (by decide) g)
  refine lv_iconst (v := 0) hx hb dX4_init_77 (by decide) ?_
  exact lv_istore_n (lv' := [(1, .int (nI 0)), (0, .ref h0)]) hx hb dX4_init_78 rfl hl (by decide) rfl (fun ls1 hl1 => kk ls1 hl1)
set_option maxHeartbeats 4000000 in
theorem it_view (B : iB p s m c args cX4_init 2 RX4 D cy) (hA : ∀ q, s.heap.size ≤ q → A q) {h0 q1 : Nat} {cA : ClassId} {fs : List Value} {x1 : Nat × va_E} {f : Nat → Option Nat} {j : Nat} (hj : j < 4) (h : iH D A s ((h0, .inr (4, fs)) :: x1 :: (q1, .inl (cA, 4, .inr (.inr (.inr (.inr f))))) :: wr) tys H locs) (hf0 : fs[1]? = some (.ref q1)) (ht : tys[1]? = some (cA, .object RX3)) (hl : lv_has ls 2 [(1, .int (nI j)), (0, .ref h0)]) (hR : 2 ≤ R.frames ∧ 32 ≤ R.locals) (hcc : cells + 1 ≤ R.cells) (hss : slots + 6 ≤ R.slots)
    (kk : ∀ (q : Nat) (u : Unit) (H1 : Heap) (locs1 : List Loc) (ls1 : Array Slot), iH D A s ((h0, .inr (4, fs)) :: x1 :: (q1, .inl (cA, 4, .inr (.inr (.inr (.inr (va_up f j (some q))))))) :: (wr ++ (iV q u))) tys H1 locs1 → lv_has ls1 2 [(1, .int (nI (j + 1))), (0, .ref h0)] → W p l e R s m args below meth c H1 locs1 (cells + 1) (slots + 6) Q (F0 m 79 ls1 [])) : W p l e R s m args below meth c H locs cells slots Q (F0 m 79 ls []) := by
  have hx := B.1
  have hb := B.2.1
  refine lv_iload_n hx hb dX4_init_79 rfl (lv_at hl 0 rfl) ?_
  refine lv_aload_n hx hb dX4_init_80 rfl (lv_at hl 1 rfl) ?_
  refine i_get B h 0 rfl rfl hin_X4 1 (by decide) hw128 rfl hf0 dX4_init_81 ?_
  refine va_alen (v := nI 4) hx hb h.2.2.2 h.1 2 1 rfl ht rfl dX4_init_84 ?_
  refine lv_icmp_ge (tgt := 107) hx hb dX4_init_85 (by decide) (fun g => absurd g (nI_ge hj (by omega))) (fun _ => ?_)
  refine lv_aload_n hx hb dX4_init_88 rfl (lv_at hl 1 rfl) ?_
  refine i_get B h 0 rfl rfl hin_X4 1 (by decide) hw128 rfl hf0 dX4_init_89 ?_
  refine lv_iload_n hx hb dX4_init_92 rfl (lv_at hl 0 rfl) ?_
  refine i_new B h hA hin_X3 tyX3 tyX3_ok iw29 iw100 hw5 (ci := 3) rfl fsV (by omega) (by omega) dX4_init_93 (fun q H1 h1 => ?_)
  refine lv_dup hx hb dX4_init_96 rfl ?_
  refine i_nest B h1 hA (c_V l D cy q) iw103 (List.mem_of_getElem? (i := 4) rfl) hw5 iw102 rfl dI3 ⟨by omega, by omega⟩ hl.1 (Nat.le_of_ble_eq_true rfl) dX4_init_97 ⟨by omega, by omega⟩ (fun u H2 locs2 h2 _ => ?_)
  refine i_astq (r := (RX3, TX3, 6)) B h2 2 1 ((h0, .inr (4, fs)) :: x1 :: (q1, .inl (cA, 4, .inr (.inr (.inr (.inr f))))) :: wr).length 3 rfl ht last_at rfl hj (by omega) dX4_init_100 (fun H3 locs3 h3 => ?_)
  refine lv_iinc (k := 0) (lv' := [(1, .int (nI (j + 1))), (0, .ref h0)]) hx hb dX4_init_101 hl rfl (nI_1 j) (by decide) rfl (fun ls1 hl1 => ?_)
  refine lv_goto (tgt := 79) hx hb dX4_init_104 (by decide) ?_
  exact W.widen (k := cells + 1) (n := slots + 6) (by omega) (by omega) (kk q u H3 locs3 ls1 h3 hl1)
set_option maxHeartbeats 4000000 in
theorem ix_view (B : iB p s m c args cX4_init 2 RX4 D cy) {h0 q1 : Nat} {cA : ClassId} {fs : List Value} {x1 : Nat × va_E} {f : Nat → Option Nat} (h : iH D A s ((h0, .inr (4, fs)) :: x1 :: (q1, .inl (cA, 4, .inr (.inr (.inr (.inr f))))) :: wr) tys H locs) (hf0 : fs[1]? = some (.ref q1)) (ht : tys[1]? = some (cA, .object RX3)) (hl : lv_has ls 2 [(1, .int (nI 4)), (0, .ref h0)])
    (kk : ∀ (ls1 : Array Slot), lv_has ls1 2 [(1, .int (nI 0)), (0, .ref h0)] → W p l e R s m args below meth c H locs cells slots Q (F0 m 109 ls1 [])) : W p l e R s m args below meth c H locs cells slots Q (F0 m 79 ls []) := by
  have hx := B.1
  have hb := B.2.1
  refine lv_iload_n hx hb dX4_init_79 rfl (lv_at hl 0 rfl) ?_
  refine lv_aload_n hx hb dX4_init_80 rfl (lv_at hl 1 rfl) ?_
  refine i_get B h 0 rfl rfl hin_X4 1 (by decide) hw128 rfl hf0 dX4_init_81 ?_
  refine va_alen (v := nI 4) hx hb h.2.2.2 h.1 2 1 rfl ht rfl dX4_init_84 ?_
  refine lv_icmp_ge (tgt := 107) hx hb dX4_init_85 (by decide) (fun _ => ?_) (fun g => absurd (by decide) g)
  refine lv_iconst (v := 0) hx hb dX4_init_107 (by decide) ?_
  exact lv_istore_n (lv' := [(1, .int (nI 0)), (0, .ref h0)]) hx hb dX4_init_108 rfl hl (by decide) rfl (fun ls1 hl1 => kk ls1 hl1)
set_option maxHeartbeats 4000000 in
theorem it_hist (B : iB p s m c args cX4_init 2 RX4 D cy) (hA : ∀ q, s.heap.size ≤ q → A q) {h0 q1 : Nat} {cA : ClassId} {fs : List Value} {x1 x2 : Nat × va_E} {f : Nat → Option Nat} {j : Nat} (hj : j < 3) (h : iH D A s ((h0, .inr (4, fs)) :: x1 :: x2 :: (q1, .inl (cA, 3, .inr (.inr (.inr (.inr f))))) :: wr) tys H locs) (hf0 : fs[2]? = some (.ref q1)) (ht : tys[2]? = some (cA, .object RX1)) (hl : lv_has ls 2 [(1, .int (nI j)), (0, .ref h0)]) (hR : 2 ≤ R.frames ∧ 32 ≤ R.locals) (hcc : cells + 4 ≤ R.cells) (hss : slots + 94 ≤ R.slots)
    (kk : ∀ (q : Nat) (u : Nat × (Nat × Nat)) (H1 : Heap) (locs1 : List Loc) (ls1 : Array Slot), iH D A s ((h0, .inr (4, fs)) :: x1 :: x2 :: (q1, .inl (cA, 3, .inr (.inr (.inr (.inr (va_up f j (some q))))))) :: (wr ++ (iHi cy q u))) tys H1 locs1 → lv_has ls1 2 [(1, .int (nI (j + 1))), (0, .ref h0)] → W p l e R s m args below meth c H1 locs1 (cells + 4) (slots + 94) Q (F0 m 109 ls1 [])) : W p l e R s m args below meth c H locs cells slots Q (F0 m 109 ls []) := by
  have hx := B.1
  have hb := B.2.1
  refine lv_iload_n hx hb dX4_init_109 rfl (lv_at hl 0 rfl) ?_
  refine lv_aload_n hx hb dX4_init_110 rfl (lv_at hl 1 rfl) ?_
  refine i_get B h 0 rfl rfl hin_X4 2 (by decide) hw129 rfl hf0 dX4_init_111 ?_
  refine va_alen (v := nI 3) hx hb h.2.2.2 h.1 3 2 rfl ht rfl dX4_init_114 ?_
  refine lv_icmp_ge (tgt := 137) hx hb dX4_init_115 (by decide) (fun g => absurd g (nI_ge hj (by omega))) (fun _ => ?_)
  refine lv_aload_n hx hb dX4_init_118 rfl (lv_at hl 1 rfl) ?_
  refine i_get B h 0 rfl rfl hin_X4 2 (by decide) hw129 rfl hf0 dX4_init_119 ?_
  refine lv_iload_n hx hb dX4_init_122 rfl (lv_at hl 0 rfl) ?_
  refine i_new B h hA hin_X1 tyX1 tyX1_ok iw31 iw65 hw4 (ci := 1) rfl fsH (by omega) (by omega) dX4_init_123 (fun q H1 h1 => ?_)
  refine lv_dup hx hb dX4_init_126 rfl ?_
  refine i_nest B h1 hA (c_H l D cy q) iw68 (List.mem_of_getElem? (i := 5) rfl) hw4 iw67 rfl dI1 ⟨by omega, by omega⟩ hl.1 (Nat.le_of_ble_eq_true rfl) dX4_init_127 ⟨by omega, by omega⟩ (fun u H2 locs2 h2 _ => ?_)
  refine i_astq (r := (RX1, TX1, 4)) B h2 3 2 ((h0, .inr (4, fs)) :: x1 :: x2 :: (q1, .inl (cA, 3, .inr (.inr (.inr (.inr f))))) :: wr).length 1 rfl ht last_at rfl hj (by omega) dX4_init_130 (fun H3 locs3 h3 => ?_)
  refine lv_iinc (k := 0) (lv' := [(1, .int (nI (j + 1))), (0, .ref h0)]) hx hb dX4_init_131 hl rfl (nI_1 j) (by decide) rfl (fun ls1 hl1 => ?_)
  refine lv_goto (tgt := 109) hx hb dX4_init_134 (by decide) ?_
  exact W.widen (k := cells + 4) (n := slots + 94) (by omega) (by omega) (kk q u H3 locs3 ls1 h3 hl1)
set_option maxHeartbeats 4000000 in
theorem ix_hist (B : iB p s m c args cX4_init 2 RX4 D cy) {h0 q1 : Nat} {cA : ClassId} {fs : List Value} {x1 x2 : Nat × va_E} {f : Nat → Option Nat} (h : iH D A s ((h0, .inr (4, fs)) :: x1 :: x2 :: (q1, .inl (cA, 3, .inr (.inr (.inr (.inr f))))) :: wr) tys H locs) (hf0 : fs[2]? = some (.ref q1)) (ht : tys[2]? = some (cA, .object RX1)) (hl : lv_has ls 2 [(1, .int (nI 3)), (0, .ref h0)])
    (kk : ∀ (ls1 : Array Slot), W p l e R s m args below meth c H locs cells slots Q (F0 m 137 ls1 [])) : W p l e R s m args below meth c H locs cells slots Q (F0 m 109 ls []) := by
  have hx := B.1
  have hb := B.2.1
  refine lv_iload_n hx hb dX4_init_109 rfl (lv_at hl 0 rfl) ?_
  refine lv_aload_n hx hb dX4_init_110 rfl (lv_at hl 1 rfl) ?_
  refine i_get B h 0 rfl rfl hin_X4 2 (by decide) hw129 rfl hf0 dX4_init_111 ?_
  refine va_alen (v := nI 3) hx hb h.2.2.2 h.1 3 2 rfl ht rfl dX4_init_114 ?_
  refine lv_icmp_ge (tgt := 137) hx hb dX4_init_115 (by decide) (fun _ => ?_) (fun g => absurd (by decide) g)
  exact kk ls
end ILOOPS
abbrev ksS : List Nat := [0, 1, 2, 3, 4, 15, 16, 17, 18, 19, 20, 21, 22, 23, 40, 41, 42, 43, 5, 6, 7, 8, 9, 10, 11, 12, 13, 14, 24, 25, 26, 27, 28, 29, 30, 31, 32, 33, 34, 35, 36, 37, 38, 39]
def cyS (cy : Nat → ClassId) (c : ClassId × (ClassId × ClassId)) : Nat → ClassId := fun k => if k = 3 then c.1 else if k = 4 then c.2.1 else if k = 5 then c.2.2 else cy k
set_option maxHeartbeats 4000000 in
set_option maxRecDepth 100000 in
theorem c_S (l : Launch) (D : va_G) (cy : Nat → ClassId) (h : Nat) : iMet l yX4_init cX4_init 2 3 52 43 1932 D cy h eS ((Nat → Nat) × (ClassId × (ClassId × ClassId))) (fun u => iw (cyS cy u.2) (iat 0 h u.1) ksS) (fun u => [(u.2.1, .object RX2), (u.2.2.1, .object RX3), (u.2.2.2, .object RX1)]) := by
  refine iMet_of (by decide) (by decide) rfl ?_
  intro p e s m args below meth c ls A Q hA B hnm hl h0 END
  have hx := B.1
  have hb := B.2.1
  refine lv_aload_n hx hb dX4_init_0 rfl (lv_at hl 0 rfl) ?_
  refine i_obj B iw24 iw25 iw26 hl.1 dX4_init_1 (Nat.le_of_ble_eq_true rfl) (Nat.le_of_ble_eq_true rfl) ?_
  refine lv_aload_n hx hb dX4_init_4 rfl (lv_at hl 0 rfl) ?_
  refine lv_iconst (v := 3) hx hb dX4_init_5 (by decide) ?_
  refine i_newq B h0 hA iw27 B.2.2.2.2.2.2.2.1 (N' := 3) (by decide) rfl (Nat.le_of_ble_eq_true rfl) (Nat.le_of_ble_eq_true rfl) (Nat.le_of_ble_eq_true rfl) dX4_init_6 (fun q1 c3 H h0a => ?_)
  refine i_putF B h0a hnm 0 rfl rfl hin_X4 tyX4 tyX4_ok nmX4 0 (by decide) hw127 rfl rfl rfl rfl (Nat.le_of_ble_eq_true rfl) dX4_init_9 (fun H locs h0b => ?_)
  refine lv_aload_n hx hb dX4_init_12 rfl (lv_at hl 0 rfl) ?_
  refine lv_iconst (v := 4) hx hb dX4_init_13 (by decide) ?_
  refine i_newq B h0b hA iw29 B.2.2.2.2.2.2.2.2.1 (N' := 4) (by decide) rfl (Nat.le_of_ble_eq_true rfl) (Nat.le_of_ble_eq_true rfl) (Nat.le_of_ble_eq_true rfl) dX4_init_14 (fun q2 c4 H h1a => ?_)
  refine i_putF B h1a hnm 0 rfl rfl hin_X4 tyX4 tyX4_ok nmX4 1 (by decide) hw128 rfl rfl rfl rfl (Nat.le_of_ble_eq_true rfl) dX4_init_17 (fun H locs h1b => ?_)
  refine lv_aload_n hx hb dX4_init_20 rfl (lv_at hl 0 rfl) ?_
  refine lv_iconst (v := 3) hx hb dX4_init_21 (by decide) ?_
  refine i_newq B h1b hA iw31 B.2.2.2.2.2.2.2.2.2 (N' := 3) (by decide) rfl (Nat.le_of_ble_eq_true rfl) (Nat.le_of_ble_eq_true rfl) (Nat.le_of_ble_eq_true rfl) dX4_init_22 (fun q3 c5 H h2a => ?_)
  refine i_putF B h2a hnm 0 rfl rfl hin_X4 tyX4 tyX4_ok nmX4 2 (by decide) hw129 rfl rfl rfl rfl (Nat.le_of_ble_eq_true rfl) dX4_init_25 (fun H locs h2b => ?_)
  refine lv_aload_n hx hb dX4_init_28 rfl (lv_at hl 0 rfl) ?_
  refine i_new B h2b hA hin_X0 tyX0 tyX0_ok iw33 iw34 hw2 (ci := 0) rfl fsB (Nat.le_of_ble_eq_true rfl) (Nat.le_of_ble_eq_true rfl) dX4_init_29 (fun q4 H h4a => ?_)
  refine lv_dup hx hb dX4_init_32 rfl ?_
  refine i_nest B h4a hA (c_B l D cy q4) iw37 (List.mem_of_getElem? (i := 2) rfl) hw2 iw36 rfl dI0 ⟨(Nat.le_of_ble_eq_true rfl), (Nat.le_of_ble_eq_true rfl)⟩ hl.1 (Nat.le_of_ble_eq_true rfl) dX4_init_33 ⟨(Nat.le_of_ble_eq_true rfl), (Nat.le_of_ble_eq_true rfl)⟩ (fun ub H locs h4b _ => ?_)
  refine i_putF B h4b hnm 0 rfl rfl hin_X4 tyX4 tyX4_ok nmX4 3 (by decide) hw130 rfl rfl rfl rfl (Nat.le_of_ble_eq_true rfl) dX4_init_36 (fun H locs h4c => ?_)
  refine lv_aload_n hx hb dX4_init_39 rfl (lv_at hl 0 rfl) ?_
  refine lv_bipush (v := 60) hx hb dX4_init_40 (by decide) ?_
  refine i_newa B h4c hA 0 (atype := .int) (ty := .int) (N' := 60) rfl rfl (fun _ _ z => z) rfl iw63 (by decide) rfl (Nat.le_of_ble_eq_true rfl) (Nat.le_of_ble_eq_true rfl) (Nat.le_of_ble_eq_true rfl) dX4_init_42 (fun q5 H h5a => ?_)
  refine i_putF B h5a hnm 0 rfl rfl hin_X4 tyX4 tyX4_ok nmX4 4 (by decide) hw131 rfl rfl rfl rfl (Nat.le_of_ble_eq_true rfl) dX4_init_44 (fun H locs h5b => ?_)
  refine lv_iconst (v := 0) hx hb dX4_init_47 (by decide) ?_
  refine lv_istore_n (lv' := [(1, .int (nI 0)), (0, .ref h)]) hx hb dX4_init_48 rfl hl (by decide) rfl (fun ls hl => ?_)
  have g0 : iH D A s ((h, .inr (4, [.ref q1, .ref q2, .ref q3, .ref q4, .ref q5, .int 0, .int 0, .int 0])) :: (q1, .inl (c3, 3, .inr (.inr (.inr (.inr (fun _ => none)))))) :: (q2, .inl (c4, 4, .inr (.inr (.inr (.inr (fun _ => none)))))) :: (q3, .inl (c5, 3, .inr (.inr (.inr (.inr (fun _ => none)))))) :: (iw cy (iat 4 q4 ub) ksB ++ [(q5, sInt (cy 0) 60 (fun _ => 0))])) [(c3, .object RX2), (c4, .object RX3), (c5, .object RX1)] H locs := h5b
  refine it_map B hA (j := 0) (by decide) g0 rfl rfl hl ⟨(Nat.le_of_ble_eq_true rfl), (Nat.le_of_ble_eq_true rfl)⟩ (Nat.le_of_ble_eq_true rfl) (Nat.le_of_ble_eq_true rfl) (fun t0 ut0 H locs ls g1 hl => ?_)
  refine it_map B hA (j := 1) (by decide) g1 rfl rfl hl ⟨(Nat.le_of_ble_eq_true rfl), (Nat.le_of_ble_eq_true rfl)⟩ (Nat.le_of_ble_eq_true rfl) (Nat.le_of_ble_eq_true rfl) (fun t1 ut1 H locs ls g2 hl => ?_)
  refine it_map B hA (j := 2) (by decide) g2 rfl rfl hl ⟨(Nat.le_of_ble_eq_true rfl), (Nat.le_of_ble_eq_true rfl)⟩ (Nat.le_of_ble_eq_true rfl) (Nat.le_of_ble_eq_true rfl) (fun t2 ut2 H locs ls g3 hl => ?_)
  refine ix_map B g3 rfl rfl hl (fun ls hl => ?_)
  refine it_view B hA (j := 0) (by decide) g3 rfl rfl hl ⟨(Nat.le_of_ble_eq_true rfl), (Nat.le_of_ble_eq_true rfl)⟩ (Nat.le_of_ble_eq_true rfl) (Nat.le_of_ble_eq_true rfl) (fun v0 uv0 H locs ls g4 hl => ?_)
  refine it_view B hA (j := 1) (by decide) g4 rfl rfl hl ⟨(Nat.le_of_ble_eq_true rfl), (Nat.le_of_ble_eq_true rfl)⟩ (Nat.le_of_ble_eq_true rfl) (Nat.le_of_ble_eq_true rfl) (fun v1 uv1 H locs ls g5 hl => ?_)
  refine it_view B hA (j := 2) (by decide) g5 rfl rfl hl ⟨(Nat.le_of_ble_eq_true rfl), (Nat.le_of_ble_eq_true rfl)⟩ (Nat.le_of_ble_eq_true rfl) (Nat.le_of_ble_eq_true rfl) (fun v2 uv2 H locs ls g6 hl => ?_)
  refine it_view B hA (j := 3) (by decide) g6 rfl rfl hl ⟨(Nat.le_of_ble_eq_true rfl), (Nat.le_of_ble_eq_true rfl)⟩ (Nat.le_of_ble_eq_true rfl) (Nat.le_of_ble_eq_true rfl) (fun v3 uv3 H locs ls g7 hl => ?_)
  refine ix_view B g7 rfl rfl hl (fun ls hl => ?_)
  refine it_hist B hA (j := 0) (by decide) g7 rfl rfl hl ⟨(Nat.le_of_ble_eq_true rfl), (Nat.le_of_ble_eq_true rfl)⟩ (Nat.le_of_ble_eq_true rfl) (Nat.le_of_ble_eq_true rfl) (fun k0 uk0 H locs ls g8 hl => ?_)
  refine it_hist B hA (j := 1) (by decide) g8 rfl rfl hl ⟨(Nat.le_of_ble_eq_true rfl), (Nat.le_of_ble_eq_true rfl)⟩ (Nat.le_of_ble_eq_true rfl) (Nat.le_of_ble_eq_true rfl) (fun k1 uk1 H locs ls g9 hl => ?_)
  refine it_hist B hA (j := 2) (by decide) g9 rfl rfl hl ⟨(Nat.le_of_ble_eq_true rfl), (Nat.le_of_ble_eq_true rfl)⟩ (Nat.le_of_ble_eq_true rfl) (Nat.le_of_ble_eq_true rfl) (fun k2 uk2 H locs ls g10 hl => ?_)
  refine ix_hist B g10 rfl rfl hl (fun ls => ?_)
  exact END _ _ (fun k => [h, q1, q2, q3, q4, q5, t0, ut0.1, ut0.2, t1, ut1.1, ut1.2, t2, ut2.1, ut2.2, ub 15, ub 16, ub 17, ub 18, ub 19, ub 20, ub 21, ub 22, ub 23, v0, v1, v2, v3, k0, uk0.1, uk0.2.1, uk0.2.2, k1, uk1.1, uk1.2.1, uk1.2.2, k2, uk2.1, uk2.2.1, uk2.2.2, ub 40, ub 41, ub 42, ub 43].getD k 0, c3, c4, c5) _ _ g10 dX4_init_137
