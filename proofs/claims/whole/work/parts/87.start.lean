/-! THE LAW FROM ITS ENTRY: the tables, the cells, the room at 0 -/
theorem i_arr {args : Array Value} {s : State} {ty : FieldType} (h : (Cond.arrayClass ty).before args s = true) : ∃ cA : ClassId, ArrOfT s cA ty ∧ s.vm.findClass ("[" ++ ty.toString) = some cA := by
  obtain ⟨cA, kA, comp, h1, h2, h3⟩ := Cond.arrayClass_spec h
  exact ⟨cA, fun n z => ⟨fun k hk => (by cases hk), kA, h2, comp, h3⟩, h1⟩
theorem t_nest : ∀ q ∈ sNest, Cond.methodLinkNest q.1 q.2.1 q.2.2.1 q.2.2.2 ∈ tables_1 := by decide +kernel
theorem t_cast : ∀ E ∈ sExs, Cond.castable E E ∈ tables_1 := by decide +kernel
theorem t_decl : ∀ y ∈ sDecl, Cond.declares y ∈ tables_1 := by decide +kernel
theorem t_strs : ∀ q ∈ sStrs, Cond.stringRef q.1 q.2.1 q.2.2 ∈ tables_1 := by decide +kernel
theorem n_strs : ∀ q ∈ sStrs, Cond.exactly (.string q.1 q.2.1) "java/lang/String" ∈ flatC (Jvm.Cond.and given_1 narrow_1) := by decide +kernel
theorem n_cast : ∀ E ∈ sExs, ∀ F ∈ sExs, E ≠ F → Cond.not (.castable E F) ∈ flatC (Jvm.Cond.and given_1 narrow_1) := by decide +kernel
theorem t_ao2 : Cond.arrayOver (.object RX2) ∈ tables_1 := List.mem_of_getElem? (i := 28) (by decide +kernel)
theorem t_ao3 : Cond.arrayOver (.object RX3) ∈ tables_1 := List.mem_of_getElem? (i := 30) (by decide +kernel)
theorem t_ao1 : Cond.arrayOver (.object RX1) ∈ tables_1 := List.mem_of_getElem? (i := 32) (by decide +kernel)
theorem t_ls1 : Cond.laysStatic Bundle.tN "UNASSIGNED_STACK" Bundle.steD ∈ tables_1 := List.mem_of_getElem? (i := 361) (by decide +kernel)
theorem t_ls2 : Cond.laysStatic Bundle.tN "SUPPRESSED_SENTINEL" Bundle.listD ∈ tables_1 := List.mem_of_getElem? (i := 363) (by decide +kernel)
theorem t_ini : Cond.initialized Bundle.tN ∈ tables_1 := List.mem_of_getElem? (i := 7) (by decide +kernel)
theorem n_ls1 : Cond.isRef (.static Bundle.tN "UNASSIGNED_STACK" Bundle.steD) ∈ flatC (Jvm.Cond.and given_1 narrow_1) := by decide +kernel
theorem n_ls2 : Cond.isRef (.static Bundle.tN "SUPPRESSED_SENTINEL" Bundle.listD) ∈ flatC (Jvm.Cond.and given_1 narrow_1) := by decide +kernel
/-- what the start gives of the machine's tables -/
theorem st_env {s : State} {av : Array Value} (hts0 : ∀ w ∈ lw_tbl, w.before av s = true) (hgv : (Jvm.Cond.and given_1 narrow_1).before av s = true) {D : va_G} {cy : Nat → ClassId} {A : Nat → Prop} (hA : ∀ a : Nat, a < s.heap.size → ¬ A a) (hK : va_K D sCl (sTys cy) s) : sEnv D cy A s s.heap := by
  have ht : ∀ w ∈ tables_1, w.before av s = true := fun w hw => hts0 w (List.mem_append_right _ hw)
  have hn := flat_of_before _ hgv
  refine ⟨hK, vx_Zqof (ht _ t_ls1) (ht _ t_ini) (hn _ n_ls1) hA, vx_Zqof (ht _ t_ls2) (ht _ t_ini) (hn _ n_ls2) hA, fun q hq => ?_, fun E hE => va_Nw.of rfl (ht _ (t_cast E hE)), fun q hq => va_Nw.of rfl (ht _ (t_nest q hq)), fun E hE F hF hne => va_Nc.of (hn _ (n_cast E hE F hF hne)), fun y hy => va_Nw.of rfl (ht _ (t_decl y hy))⟩
  obtain ⟨a, c, cell, k, q1, -⟩ := Cond.exactly_spec (hn _ (n_strs q hq))
  exact ⟨a, vk_R.of (ht _ (t_strs q hq)) q1⟩
/-- the classes, by their numbers -/
theorem st_cls {s : State} {av : Array Value} (hsT : ∀ w ∈ sT, w.before av s = true) : ∃ D : va_G, ∀ (k : Nat) (q : vw_C), sCl[k]? = some q → u_Kn s q.1 q.2.1 q.2.2 (D.1 k) (D.2 k) := by
  obtain ⟨c0, i0, k0⟩ := u_known (C := RX0) (T := TX0) (N := 4) (n := 4) hsT hin_X0 (hsT _ iw34)
  obtain ⟨c1, i1, k1⟩ := u_known (C := RX1) (T := TX1) (N := 4) (n := 4) hsT hin_X1 (hsT _ iw65)
  obtain ⟨c2, i2, k2⟩ := u_known (C := RX2) (T := TX2) (N := 3) (n := 3) hsT hin_X2 (hsT _ iw40)
  obtain ⟨c3, i3, k3⟩ := u_known (C := RX3) (T := TX3) (N := 6) (n := 6) hsT hin_X3 (hsT _ iw100)
  obtain ⟨c4, i4, k4⟩ := u_known (C := RX4) (T := TX4) (N := 8) (n := 8) hsT hin_X4 (hsT _ iw20)
  obtain ⟨c5, i5, k5⟩ := u_known (C := RX5) (T := TX5) (N := 21) (n := 21) hsT hin_X5 (hsT _ iw824)
  refine ⟨(fun k => if k = 0 then c0 else if k = 1 then c1 else if k = 2 then c2 else if k = 3 then c3 else if k = 4 then c4 else c5, fun k => if k = 0 then i0 else if k = 1 then i1 else if k = 2 then i2 else if k = 3 then i3 else if k = 4 then i4 else i5), ?_⟩
  intro k q hq
  match k, hq with
  | 0, hq => cases hq; exact k0
  | 1, hq => cases hq; exact k1
  | 2, hq => cases hq; exact k2
  | 3, hq => cases hq; exact k3
  | 4, hq => cases hq; exact k4
  | 5, hq => cases hq; exact k5
  | k + 6, hq => simp [sCl] at hq
/-- the arrays of numbers -/
theorem st_arr {s : State} {av : Array Value} (hsT : ∀ w ∈ sT, w.before av s = true) {D : va_G} (hKc : ∀ (k : Nat) (q : vw_C), sCl[k]? = some q → u_Kn s q.1 q.2.1 q.2.2 (D.1 k) (D.2 k)) : ∃ cy : Nat → ClassId, va_K D sCl [(cy 0, .int), (cy 1, .char), (cy 2, .boolean)] s := by
  obtain ⟨a0, r0, n0⟩ := i_arr (hsT _ iw63)
  obtain ⟨a1, r1, n1⟩ := i_arr (hsT _ iw85)
  obtain ⟨a2, r2, n2⟩ := i_arr (hsT _ iw893)
  refine ⟨fun k => if k = 0 then a0 else if k = 1 then a1 else a2, hKc, fun k q hq => ?_⟩
  match k, hq with
  | 0, hq => cases hq; exact ⟨r0, n0⟩
  | 1, hq => cases hq; exact ⟨r1, n1⟩
  | 2, hq => cases hq; exact ⟨r2, n2⟩
  | k + 3, hq => simp at hq
abbrev pOrd : List Nat := [0, 1, 2, 3, 4, 18, 19, 20, 21, 22, 23, 24, 25, 26, 27, 5, 6, 7, 8, 9, 10, 11, 12, 13, 28, 29, 30, 31, 32, 33, 34, 35, 36, 37, 38, 39, 40, 41, 42, 43, 14, 15, 16, 17, 44, 45, 46, 47, 48, 49, 50, 51, 52, 53, 54, 55, 56, 57, 58, 59, 60, 61, 62]
theorem pOrd_inj : ∀ i, i < 63 → ∀ j, j < 63 → pOrd.getD i 0 = pOrd.getD j 0 → i = j := by decide +kernel
def adF (a m : Nat → Nat) (x y : Nat) : Nat → Nat := fun k => if k < 44 then a k else if k < 61 then m k else if k = 61 then x else y
def cyF (cy : Nat → ClassId) (c6 c7 : ClassId) : Nat → ClassId := fun k => if k = 6 then c6 else if k = 7 then c7 else cy k
def wF (cy : Nat → ClassId) (cs : ClassId × (ClassId × ClassId)) (c6 c7 : ClassId) (a m : Nat → Nat) (x y : Nat) : va_W := ((iw (cyS cy cs) a ksS ++ iw cy m ksM) ++ [(x, .inl (c6, 1, .inr (.inl (fun _ => 0))))]) ++ [(y, .inl (c7, 1, .inr (.inr (.inr (.inl (fun _ => 0))))))]
set_option maxHeartbeats 4000000 in
theorem wF_at (cy : Nat → ClassId) (cs : ClassId × (ClassId × ClassId)) (c6 c7 : ClassId) (a m : Nat → Nat) (x y : Nat) : ∀ k, k < 63 → (wF cy cs c6 c7 a m x y)[pOrd.getD k 0]? = some (adF a m x y k, sRow (cyF (cyS cy cs) c6 c7) (adF a m x y) iX k (fun _ => 0)) := by
  intro k hk
  rcases lt63 hk with rfl | rfl | rfl | rfl | rfl | rfl | rfl | rfl | rfl | rfl | rfl | rfl | rfl | rfl | rfl | rfl | rfl | rfl | rfl | rfl | rfl | rfl | rfl | rfl | rfl | rfl | rfl | rfl | rfl | rfl | rfl | rfl | rfl | rfl | rfl | rfl | rfl | rfl | rfl | rfl | rfl | rfl | rfl | rfl | rfl | rfl | rfl | rfl | rfl | rfl | rfl | rfl | rfl | rfl | rfl | rfl | rfl | rfl | rfl | rfl | rfl | rfl | rfl <;> rfl
theorem wF_all {D : va_G} {cy : Nat → ClassId} {cs : ClassId × (ClassId × ClassId)} {c6 c7 : ClassId} {a m : Nat → Nat} {x y sz : Nat} {H : Heap} (hP : va_P D sCl (wF cy cs c6 c7 a m x y) H) (hD : va_D (fun q => sz ≤ q) (wF cy cs c6 c7 a m x y)) : va_P D sCl (sW (cyF (cyS cy cs) c6 c7) (adF a m x y) iX (fun _ _ => 0)) H ∧ sAp (adF a m x y) ∧ ∀ k, k < 63 → sz ≤ adF a m x y k := by
  refine ⟨fun k q hq => ?_, fun i j hi hj e => ?_, fun k hk => ?_⟩
  · obtain ⟨hk, rfl⟩ := sW_out hq
    exact hP _ _ (wF_at cy cs c6 c7 a m x y k hk)
  · exact pOrd_inj i hi j hj (hD.1 _ _ _ _ (wF_at cy cs c6 c7 a m x y i hi) (wF_at cy cs c6 c7 a m x y j hj) e)
  · exact hD.2 _ _ (wF_at cy cs c6 c7 a m x y k hk)
theorem dI4 : sCall RL 129 yX4_init cX4_init 2 none 0 := ⟨iw23, iw21, hw1, by decide +kernel, by decide +kernel, by decide +kernel⟩
theorem dI5 : sCall RL 132 yX5_init cX5_init 1 none 0 := ⟨iw827, iw825, hw6, by decide +kernel, by decide +kernel, by decide +kernel⟩
set_option maxHeartbeats 4000000 in
set_option maxRecDepth 100000 in
/-- THE LAW, from its entry -/
theorem whole_start {p : Program} {e : Env} {s : State} {m : MethodId} {below : List Frame} {meth : Method} {c : Code} (l : Launch) (hflags : l.flags = flags0) {b L : Nat} {xs : Nat → Int32} (hL : L ≤ 3584) (C0 : lw_At p s m meth c b L xs) : W p l e room_1 s m #[Value.ref b] below meth c s.heap [] 0 0 (lw_Z below #[Value.ref b] s) (entryFrame m ([Value.ref b] : List Value).toArray 9) := by
  obtain ⟨hx, hb, hr, hml, hown, hts0, hX, hbl, hlocks, hgv⟩ := id C0
  have hsT : ∀ w ∈ sT, w.before #[Value.ref b] s = true := fun w hw => hts0 w (List.mem_filter.mp hw).1
  have hl0 : l.stackTraces = false := by unfold Launch.stackTraces; rw [hflags]; decide +kernel
  obtain ⟨D, hKc⟩ := st_cls hsT
  obtain ⟨cy, hK0⟩ := st_arr hsT hKc
  have ht : ∀ w ∈ tables_1, w.before #[Value.ref b] s = true := fun w hw => hts0 w (List.mem_append_right _ hw)
  have hE : iEnv D cy s := ⟨hK0, fun q hq => va_Nw.of rfl (ht _ (t_nest q hq)), va_AO.of (ht _ t_ao2), va_AO.of (ht _ t_ao3), va_AO.of (ht _ t_ao1)⟩
  have hd0 := Drawn.sameBut.refl s.drawn lw_cs
  refine W.base ?_
  have hA : ∀ q : Nat, (s.setDrawn s.drawn).heap.size ≤ q → (fun q : Nat => s.heap.size ≤ q) q := fun _ h => h
  have B : iB p (s.setDrawn s.drawn) m c #[Value.ref b] cL_law 9 RL D cy := ⟨hx, hb, hml, hown, dr_words hsT _, hE⟩
  have h0 : iH D (fun q : Nat => s.heap.size ≤ q) (s.setDrawn s.drawn) [] [] s.heap [] := ⟨fun k q h => by simp at h, ⟨fun i j p q h => by simp at h, fun k q h => by simp at h⟩, va_S.rf, hKc, fun k q h => by simp at h⟩
  have hl := lv_entry ([.ref b]) (n := 9) (Nat.le_of_ble_eq_true rfl)
  rw [lg_entry_eq]
  generalize (lg_sl ([.ref b]) ++ List.replicate (9 - (lg_sl ([.ref b])).length) Slot.unset).toArray = ls at hl ⊢
  have hl : lv_has ls 9 [(0, .ref b)] := hl
  refine i_new B h0 hA hin_X4 tyX4 tyX4_ok iw19 iw20 hw1 (ci := 4) rfl fsS (Nat.le_of_ble_eq_true rfl) (Nat.le_of_ble_eq_true rfl) dL_law_0 (fun q0 H h1 => ?_)
  refine lv_dup hx hb dL_law_3 rfl ?_
  refine i_publ B h1 hA (c_S l D cy q0) dI4 iw22 rfl ⟨(Nat.le_of_ble_eq_true rfl), (Nat.le_of_ble_eq_true rfl)⟩ hl.1 (Nat.le_of_ble_eq_true rfl) dL_law_4 ⟨(Nat.le_of_ble_eq_true rfl), (Nat.le_of_ble_eq_true rfl)⟩ (fun us H locs h2 k2 => ?_)
  refine lv_astore_n (lv' := [(1, .ref q0), (0, .ref b)]) hx hb dL_law_7 rfl hl (by decide) rfl (fun ls hl => ?_)
  refine i_new B h2 hA hin_X5 tyX5 tyX5_ok iw823 iw824 hw6 (ci := 5) rfl fsM (Nat.le_of_ble_eq_true rfl) (Nat.le_of_ble_eq_true rfl) dL_law_8 (fun q1 H h3 => ?_)
  refine lv_dup hx hb dL_law_11 rfl ?_
  refine i_publ B h3 hA (c_M l D cy q1) dI5 iw826 rfl ⟨(Nat.le_of_ble_eq_true rfl), (Nat.le_of_ble_eq_true rfl)⟩ hl.1 (Nat.le_of_ble_eq_true rfl) dL_law_12 ⟨(Nat.le_of_ble_eq_true rfl), (Nat.le_of_ble_eq_true rfl)⟩ (fun um H locs h4 _ => ?_)
  refine lv_astore_n (lv' := [(2, .ref q1), (1, .ref q0), (0, .ref b)]) hx hb dL_law_15 rfl hl (by decide) rfl (fun ls hl => ?_)
  refine lv_iconst (v := 1) hx hb dL_law_16 (by decide) ?_
  refine va_newa (a0 := (1, .inr (.inl (fun _ => 0)))) (atype := .long) (ty := .long) (N' := 1) hx hb (B.2.2.2.2.1 _ iw1127) rfl h4.2.2.2 h4.1 h4.2.1 h4.2.2.1 hA (fun cB => rfl) (by decide) rfl (Nat.le_of_ble_eq_true rfl) (Nat.le_of_ble_eq_true rfl) (Nat.le_of_ble_eq_true rfl) dL_law_17 (fun q6 c6 H k6 hP hD hS => ?_)
  refine lv_astore_n (lv' := [(3, .ref q6), (2, .ref q1), (1, .ref q0), (0, .ref b)]) hx hb dL_law_19 rfl hl (by decide) rfl (fun ls hl => ?_)
  refine lv_iconst (v := 1) hx hb dL_law_20 (by decide) ?_
  refine va_newa (a0 := (1, .inr (.inr (.inr (.inl (fun _ => 0)))))) (atype := .double) (ty := .double) (N' := 1) hx hb (B.2.2.2.2.1 _ iw1128) rfl h4.2.2.2 hP hD hS hA (fun cB => rfl) (by decide) rfl (Nat.le_of_ble_eq_true rfl) (Nat.le_of_ble_eq_true rfl) (Nat.le_of_ble_eq_true rfl) dL_law_21 (fun q7 c7 H k7 hP hD hS => ?_)
  refine lv_astore (lv' := [(4, .ref q7), (3, .ref q6), (2, .ref q1), (1, .ref q0), (0, .ref b)]) hx hb dL_law_23 hl (by decide) rfl (fun ls hl => ?_)
  refine lv_iconst (v := 0) hx hb dL_law_25 (by decide) ?_
  refine lv_istore (lv' := [(5, .int 0), (4, .ref q7), (3, .ref q6), (2, .ref q1), (1, .ref q0), (0, .ref b)]) hx hb dL_law_26 hl (by decide) rfl (fun ls hl => ?_)
  obtain ⟨p1, p2, p3⟩ := wF_all (cy := cy) (cs := us.2) (c6 := c6) (c7 := c7) (a := iat 0 q0 us.1) (m := iat 44 q1 um) (x := q6) (y := q7) hP hD
  have hA2 : ∀ a : Nat, a < s.heap.size → ¬ sFree (adF (iat 0 q0 us.1) (iat 44 q1 um) q6 q7) s.heap.size a := fun a ha q => by
    rcases q with ⟨k, hk, e1⟩ | q
    · have := p3 k hk
      omega
    · omega
  have hKK : va_K D sCl (sTys (cyF (cyS cy us.2) c6 c7)) s := va_K.app (va_K.app (va_K.app hK0 k2) k6) k7
  have C1 : lwC s s.drawn b L xs (adF (iat 0 q0 us.1) (iat 44 q1 um) q6 q7) := ⟨hX, hbl, hA2 b hbl, p3, hd0⟩
  have B1 : sB p l (s.setDrawn s.drawn) m meth c #[Value.ref b] code 9 RL D (cyF (cyS cy us.2) c6 c7) (adF (iat 0 q0 us.1) (iat 44 q1 um) q6 q7) := ⟨hx, hb, hml, hown, dr_words hsT _, st_env hts0 hgv hA2 hKK, p2, hlocks, hl0⟩
  exact k_L_law_28 C1 B1 hr 600 0 (fun _ _ => 0) iX (law_whole hL (fun _ _ => rfl) iX) H _ ls _ _ ⟨p1, hS.1, fun q h1 _ => hS.2.1 q h1 (Nat.not_le.mpr h1), fun q hq => Or.inr (hS.2.2 q hq)⟩ (lv_sub hl [5, 4, 3, 2, 1, 0] rfl) (Nat.le_of_ble_eq_true rfl) (Nat.le_of_ble_eq_true rfl)
