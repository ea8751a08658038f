set_option maxHeartbeats 4000000 in
set_option maxRecDepth 100000 in
theorem k_X5_adds_0 {p : Program} {l : Launch} {e : Env} {s : State} {m : MethodId} {args : Array Value} {below : List Frame} {meth : Method} {c : Code} {D : va_G} {cy : Nat → ClassId} {ad : Nat → Nat} {X : sX} {r : Unit} {σ' : sM} (B : sB p l s m meth c args cX5_adds 6 RX5 D cy ad) (hr : meth.sig.returnType = none) (v1 : Int32) (v2 : Int32) (v3 : Int32) (v4 : Int32) (σ : sM) (hf : f_X5_adds v1 v2 v3 v4 σ = some (r, σ')) : sGo p l e { frames := 0, cells := 0, slots := 0, locals := 0 } s m args below meth c D cy ad X 6 (sQ below args s 0 0 D cy ad (.inr none) X σ') σ 0 [(0, .ref (ad 44)), (1, .int v1), (2, .int v2), (3, .int v3), (4, .int v4)] [] := by
  replace hf : (chk (inb v1 3) (chk (inb (((30 : Int32) * v1) + (σ 58 (v1).toNatClampNeg)) 90) (stl (va_up σ 55 (upd (σ 55) ((((30 : Int32) * v1) + (σ 58 (v1).toNatClampNeg))).toNatClampNeg (vp_nar .char v2))) (fun σ3 => chk (inb (((30 : Int32) * v1) + (σ 58 (v1).toNatClampNeg)) 90) (stl (va_up σ3 56 (upd (σ3 56) ((((30 : Int32) * v1) + (σ 58 (v1).toNatClampNeg))).toNatClampNeg v3)) (fun σ5 => chk (inb (((30 : Int32) * v1) + (σ 58 (v1).toNatClampNeg)) 90) (stl (va_up σ5 57 (upd (σ5 57) ((((30 : Int32) * v1) + (σ 58 (v1).toNatClampNeg))).toNatClampNeg v4)) (fun σ7 => chk (inb v1 3) (chk (inb v1 3) (stl (va_up σ7 58 (upd (σ7 58) (v1).toNatClampNeg ((σ7 58 (v1).toNatClampNeg) + (1 : Int32)))) (fun σ10 => some ((), σ10)))))))))))) = some (r, σ') := hf
  intro H locs ls h hl
  have hx := B.1
  have hb := B.2.1
  refine lv_bipush (v := (30 : Int32)) hx hb dX5_adds_0 (by decide) ?_
  refine lv_iload_n hx hb dX5_adds_2 rfl (lv_at hl 1 rfl) ?_
  refine lv_imul hx hb dX5_adds_3 ?_
  refine lv_aload_n hx hb dX5_adds_4 rfl (lv_at hl 0 rfl) ?_
  refine g_get B h 44 (by decide) (C := RX5) (T := TX5) (N := 21) (M_row _) rfl hin_X5 13 (by decide) hw842 rfl rfl dX5_adds_5 ?_
  refine lv_iload_n hx hb dX5_adds_8 rfl (lv_at hl 1 rfl) ?_
  obtain ⟨c1, hf⟩ := chk_some hf
  refine g_iald B h 58 (by decide) (n := 3) (fun _ => rfl) (inb_in c1) dX5_adds_9 ?_
  refine lv_iadd hx hb dX5_adds_10 ?_
  refine lv_istore (lv' := [(5, .int (((30 : Int32) * v1) + (σ 58 (v1).toNatClampNeg))), (0, .ref (ad 44)), (1, .int v1), (2, .int v2), (3, .int v3), (4, .int v4)]) hx hb dX5_adds_11 hl (by decide) rfl (fun ls hl => ?_)
  refine lv_aload_n hx hb dX5_adds_13 rfl (lv_at hl 1 rfl) ?_
  refine g_get B h 44 (by decide) (C := RX5) (T := TX5) (N := 21) (M_row _) rfl hin_X5 10 (by decide) hw839 rfl rfl dX5_adds_14 ?_
  refine lv_iload hx hb dX5_adds_17 (lv_at hl 0 rfl) ?_
  refine lv_iload_n hx hb dX5_adds_19 rfl (lv_at hl 3 rfl) ?_
  obtain ⟨c2, hf⟩ := chk_some hf
  refine g_cast B h 55 (by decide) (n := 90) (fun _ => rfl) (inb_in c2) dX5_adds_20 (fun H locs h => ?_)
  obtain ⟨σ3, e3, hf⟩ := stl_some hf
  rw [← e3] at h
  refine lv_aload_n hx hb dX5_adds_21 rfl (lv_at hl 1 rfl) ?_
  refine g_get B h 44 (by decide) (C := RX5) (T := TX5) (N := 21) (M_row _) rfl hin_X5 11 (by decide) hw840 rfl rfl dX5_adds_22 ?_
  refine lv_iload hx hb dX5_adds_25 (lv_at hl 0 rfl) ?_
  refine lv_iload_n hx hb dX5_adds_27 rfl (lv_at hl 4 rfl) ?_
  obtain ⟨c4, hf⟩ := chk_some hf
  refine g_iast B h 56 (by decide) (n := 90) (fun _ => rfl) (inb_in c4) dX5_adds_28 (fun H locs h => ?_)
  obtain ⟨σ5, e5, hf⟩ := stl_some hf
  rw [← e5] at h
  refine lv_aload_n hx hb dX5_adds_29 rfl (lv_at hl 1 rfl) ?_
  refine g_get B h 44 (by decide) (C := RX5) (T := TX5) (N := 21) (M_row _) rfl hin_X5 12 (by decide) hw841 rfl rfl dX5_adds_30 ?_
  refine lv_iload hx hb dX5_adds_33 (lv_at hl 0 rfl) ?_
  refine lv_iload hx hb dX5_adds_35 (lv_at hl 5 rfl) ?_
  obtain ⟨c6, hf⟩ := chk_some hf
  refine g_iast B h 57 (by decide) (n := 90) (fun _ => rfl) (inb_in c6) dX5_adds_37 (fun H locs h => ?_)
  obtain ⟨σ7, e7, hf⟩ := stl_some hf
  rw [← e7] at h
  refine lv_aload_n hx hb dX5_adds_38 rfl (lv_at hl 1 rfl) ?_
  refine g_get B h 44 (by decide) (C := RX5) (T := TX5) (N := 21) (M_row _) rfl hin_X5 13 (by decide) hw842 rfl rfl dX5_adds_39 ?_
  refine lv_iload_n hx hb dX5_adds_42 rfl (lv_at hl 2 rfl) ?_
  refine lv_dup2_11 hx hb dX5_adds_43 rfl rfl ?_
  obtain ⟨c8, hf⟩ := chk_some hf
  refine g_iald B h 58 (by decide) (n := 3) (fun _ => rfl) (inb_in c8) dX5_adds_44 ?_
  refine lv_iconst (v := (1 : Int32)) hx hb dX5_adds_45 (by decide) ?_
  refine lv_iadd hx hb dX5_adds_46 ?_
  obtain ⟨c9, hf⟩ := chk_some hf
  refine g_iast B h 58 (by decide) (n := 3) (fun _ => rfl) (inb_in c9) dX5_adds_47 (fun H locs h => ?_)
  obtain ⟨σ10, e10, hf⟩ := stl_some hf
  rw [← e10] at h
  cases hf
  exact sE_v B hr h dX5_adds_48
set_option maxRecDepth 100000 in
theorem ok_X5_adds {l : Launch} (hl0 : l.stackTraces = false) {D : va_G} {cy : Nat → ClassId} {ad : Nat → Nat} (hap : sAp ad) (X : sX) (σ : sM) (v1 : Int32) (v2 : Int32) (v3 : Int32) (v4 : Int32) {r : Unit} {σ' : sM} (hf : f_X5_adds v1 v2 v3 v4 σ = some (r, σ')) : sMet l yX5_adds (sWs yX5_adds cX5_adds 6 none) 0 0 0 0 D cy ad X σ [.ref (ad 44), .int v1, .int v2, .int v3, .int v4] (.inr none) X σ' := by
  refine sMet_of (by decide +kernel) (Nat.le_of_ble_eq_true rfl) hap hl0 ?_
  intro p e s m args below meth c ls B hr htab hl h
  exact k_X5_adds_0 B hr _ _ _ _ _  hf _ _ _ h hl
set_option maxHeartbeats 4000000 in
set_option maxRecDepth 100000 in
theorem k_X5_firstOf_9 {p : Program} {l : Launch} {e : Env} {s : State} {m : MethodId} {args : Array Value} {below : List Frame} {meth : Method} {c : Code} {D : va_G} {cy : Nat → ClassId} {ad : Nat → Nat} {X : sX} {r : Int32} (B : sB p l s m meth c args cX5_firstOf 4 RX5 D cy ad) (hr : meth.sig.returnType = (some .int)) : ∀ (n : Nat) (v1 : Int32) (v2 : Int32) (v3 : Int32) (σ : sM), b_X5_firstOf_9 n v1 v2 v3 σ = some r → sGo p l e { frames := 0, cells := 0, slots := 0, locals := 0 } s m args below meth c D cy ad X 4 (sQ below args s 0 0 D cy ad (.inr (some (.int r))) X σ) σ 9 [(0, .ref (ad 44)), (1, .int v1), (2, .int v2), (3, .int v3)] [] := by
  intro n
  induction n with
  | zero =>
    intro v1 v2 v3 σ hf
    exact nomatch (show none = some r from hf)
  | succ n ih =>
    intro v1 v2 v3 σ hf
    replace hf : (chk (inb v2 3) (if (σ 47 (v2).toNatClampNeg) ≤ v3 then (some v3) else (chk (inb (((60 : Int32) * v2) + v3) 180) (chk (inb v1 4) (if (σ 45 ((((60 : Int32) * v2) + v3)).toNatClampNeg) < (σ 50 (v1).toNatClampNeg) then (b_X5_firstOf_9 n v1 v2 (v3 + 1) σ) else (chk (inb (((60 : Int32) * v2) + v3) 180) (chk (inb v1 4) (if (σ 45 ((((60 : Int32) * v2) + v3)).toNatClampNeg) = (σ 50 (v1).toNatClampNeg) then (chk (inb v1 4) (if (σ 52 (v1).toNatClampNeg) = 0 then (b_X5_firstOf_9 n v1 v2 (v3 + 1) σ) else (some v3))) else (some v3))))))))) = some r := hf
    intro H locs ls h hl
    have hx := B.1
    have hb := B.2.1
    refine lv_iload_n hx hb dX5_firstOf_9 rfl (lv_at hl 3 rfl) ?_
    refine lv_aload_n hx hb dX5_firstOf_10 rfl (lv_at hl 0 rfl) ?_
    refine g_get B h 44 (by decide) (C := RX5) (T := TX5) (N := 21) (M_row _) rfl hin_X5 2 (by decide) hw831 rfl rfl dX5_firstOf_11 ?_
    refine lv_iload_n hx hb dX5_firstOf_14 rfl (lv_at hl 2 rfl) ?_
    obtain ⟨c2, hf⟩ := chk_some hf
    refine g_iald B h 47 (by decide) (n := 3) (fun _ => rfl) (inb_in c2) dX5_firstOf_15 ?_
    refine lv_icmp_ge (tgt := 74) hx hb dX5_firstOf_16 (by decide) (fun c3 => ?_) (fun c3 => ?_)
    · rw [if_pos c3] at hf
      refine lv_iload_n hx hb dX5_firstOf_74 rfl (lv_at hl 3 rfl) ?_
      cases hf
      exact sE_i B hr h dX5_firstOf_75
    · rw [if_neg c3] at hf
      refine lv_aload_n hx hb dX5_firstOf_19 rfl (lv_at hl 0 rfl) ?_
      refine g_get B h 44 (by decide) (C := RX5) (T := TX5) (N := 21) (M_row _) rfl hin_X5 0 (by decide) hw829 rfl rfl dX5_firstOf_20 ?_
      refine lv_bipush (v := (60 : Int32)) hx hb dX5_firstOf_23 (by decide) ?_
      refine lv_iload_n hx hb dX5_firstOf_25 rfl (lv_at hl 2 rfl) ?_
      refine lv_imul hx hb dX5_firstOf_26 ?_
      refine lv_iload_n hx hb dX5_firstOf_27 rfl (lv_at hl 3 rfl) ?_
      refine lv_iadd hx hb dX5_firstOf_28 ?_
      obtain ⟨c4, hf⟩ := chk_some hf
      refine g_iald B h 45 (by decide) (n := 180) (fun _ => rfl) (inb_in c4) dX5_firstOf_29 ?_
      refine lv_aload_n hx hb dX5_firstOf_30 rfl (lv_at hl 0 rfl) ?_
      refine g_get B h 44 (by decide) (C := RX5) (T := TX5) (N := 21) (M_row _) rfl hin_X5 5 (by decide) hw834 rfl rfl dX5_firstOf_31 ?_
      refine lv_iload_n hx hb dX5_firstOf_34 rfl (lv_at hl 1 rfl) ?_
      obtain ⟨c5, hf⟩ := chk_some hf
      refine g_iald B h 50 (by decide) (n := 4) (fun _ => rfl) (inb_in c5) dX5_firstOf_35 ?_
      refine lv_icmp_lt (tgt := 68) hx hb dX5_firstOf_36 (by decide) (fun c6 => ?_) (fun c6 => ?_)
      · rw [if_pos c6] at hf
        refine lv_iinc (v := (v3 + 1)) (lv' := [(3, .int (v3 + 1)), (0, .ref (ad 44)), (1, .int v1), (2, .int v2)]) hx hb dX5_firstOf_68 hl (k := 3) rfl rfl (by decide) rfl (fun ls hl => ?_)
        refine lv_goto (tgt := 9) hx hb dX5_firstOf_71 (by decide) ?_
        exact ih _ _ _ _ hf _ _ _ h (lv_sub hl [1, 2, 3, 0] rfl)
      · rw [if_neg c6] at hf
        refine lv_aload_n hx hb dX5_firstOf_39 rfl (lv_at hl 0 rfl) ?_
        refine g_get B h 44 (by decide) (C := RX5) (T := TX5) (N := 21) (M_row _) rfl hin_X5 0 (by decide) hw829 rfl rfl dX5_firstOf_40 ?_
        refine lv_bipush (v := (60 : Int32)) hx hb dX5_firstOf_43 (by decide) ?_
        refine lv_iload_n hx hb dX5_firstOf_45 rfl (lv_at hl 2 rfl) ?_
        refine lv_imul hx hb dX5_firstOf_46 ?_
        refine lv_iload_n hx hb dX5_firstOf_47 rfl (lv_at hl 3 rfl) ?_
        refine lv_iadd hx hb dX5_firstOf_48 ?_
        obtain ⟨c7, hf⟩ := chk_some hf
        refine g_iald B h 45 (by decide) (n := 180) (fun _ => rfl) (inb_in c7) dX5_firstOf_49 ?_
        refine lv_aload_n hx hb dX5_firstOf_50 rfl (lv_at hl 0 rfl) ?_
        refine g_get B h 44 (by decide) (C := RX5) (T := TX5) (N := 21) (M_row _) rfl hin_X5 5 (by decide) hw834 rfl rfl dX5_firstOf_51 ?_
        refine lv_iload_n hx hb dX5_firstOf_54 rfl (lv_at hl 1 rfl) ?_
        obtain ⟨c8, hf⟩ := chk_some hf
        refine g_iald B h 50 (by decide) (n := 4) (fun _ => rfl) (inb_in c8) dX5_firstOf_55 ?_
        refine lv_icmp_ne (tgt := 74) hx hb dX5_firstOf_56 (by decide) (fun c9 => ?_) (fun c9 => ?_)
        · rw [if_neg c9] at hf
          refine lv_iload_n hx hb dX5_firstOf_74 rfl (lv_at hl 3 rfl) ?_
          cases hf
          exact sE_i B hr h dX5_firstOf_75
        · rw [if_pos c9] at hf
          refine lv_aload_n hx hb dX5_firstOf_59 rfl (lv_at hl 0 rfl) ?_
          refine g_get B h 44 (by decide) (C := RX5) (T := TX5) (N := 21) (M_row _) rfl hin_X5 7 (by decide) hw836 rfl rfl dX5_firstOf_60 ?_
          refine lv_iload_n hx hb dX5_firstOf_63 rfl (lv_at hl 1 rfl) ?_
          obtain ⟨c10, hf⟩ := chk_some hf
          refine g_zald B h 52 (by decide) (n := 4) (fun _ => rfl) (inb_in c10) dX5_firstOf_64 ?_
          refine lv_if_ne (tgt := 74) hx hb dX5_firstOf_65 (by decide) (fun c11 => ?_) (fun c11 => ?_)
          · rw [if_neg c11] at hf
            refine lv_iload_n hx hb dX5_firstOf_74 rfl (lv_at hl 3 rfl) ?_
            cases hf
            exact sE_i B hr h dX5_firstOf_75
          · rw [if_pos c11] at hf
            refine lv_iinc (v := (v3 + 1)) (lv' := [(3, .int (v3 + 1)), (0, .ref (ad 44)), (1, .int v1), (2, .int v2)]) hx hb dX5_firstOf_68 hl (k := 3) rfl rfl (by decide) rfl (fun ls hl => ?_)
            refine lv_goto (tgt := 9) hx hb dX5_firstOf_71 (by decide) ?_
            exact ih _ _ _ _ hf _ _ _ h (lv_sub hl [1, 2, 3, 0] rfl)
set_option maxHeartbeats 4000000 in
set_option maxRecDepth 100000 in
theorem k_X5_firstOf_0 {p : Program} {l : Launch} {e : Env} {s : State} {m : MethodId} {args : Array Value} {below : List Frame} {meth : Method} {c : Code} {D : va_G} {cy : Nat → ClassId} {ad : Nat → Nat} {X : sX} {r : Int32} (B : sB p l s m meth c args cX5_firstOf 4 RX5 D cy ad) (hr : meth.sig.returnType = (some .int)) (v1 : Int32) (σ : sM) (hf : f_X5_firstOf v1 σ = some r) : sGo p l e { frames := 0, cells := 0, slots := 0, locals := 0 } s m args below meth c D cy ad X 4 (sQ below args s 0 0 D cy ad (.inr (some (.int r))) X σ) σ 0 [(0, .ref (ad 44)), (1, .int v1)] [] := by
  replace hf : (chk (inb v1 4) (b_X5_firstOf_9 FU v1 (σ 49 (v1).toNatClampNeg) (0 : Int32) σ)) = some r := hf
  intro H locs ls h hl
  have hx := B.1
  have hb := B.2.1
  refine lv_aload_n hx hb dX5_firstOf_0 rfl (lv_at hl 0 rfl) ?_
  refine g_get B h 44 (by decide) (C := RX5) (T := TX5) (N := 21) (M_row _) rfl hin_X5 4 (by decide) hw833 rfl rfl dX5_firstOf_1 ?_
  refine lv_iload_n hx hb dX5_firstOf_4 rfl (lv_at hl 1 rfl) ?_
  obtain ⟨c1, hf⟩ := chk_some hf
  refine g_iald B h 49 (by decide) (n := 4) (fun _ => rfl) (inb_in c1) dX5_firstOf_5 ?_
  refine lv_istore_n (lv' := [(2, .int (σ 49 (v1).toNatClampNeg)), (0, .ref (ad 44)), (1, .int v1)]) hx hb dX5_firstOf_6 rfl hl (by decide) rfl (fun ls hl => ?_)
  refine lv_iconst (v := (0 : Int32)) hx hb dX5_firstOf_7 (by decide) ?_
  refine lv_istore_n (lv' := [(3, .int (0 : Int32)), (2, .int (σ 49 (v1).toNatClampNeg)), (0, .ref (ad 44)), (1, .int v1)]) hx hb dX5_firstOf_8 rfl hl (by decide) rfl (fun ls hl => ?_)
  exact k_X5_firstOf_9 B hr  _ _ _ _ _ hf _ _ _ h (lv_sub hl [2, 3, 1, 0] rfl)
set_option maxRecDepth 100000 in
theorem ok_X5_firstOf {l : Launch} (hl0 : l.stackTraces = false) {D : va_G} {cy : Nat → ClassId} {ad : Nat → Nat} (hap : sAp ad) (X : sX) (σ : sM) (v1 : Int32) {r : Int32} (hf : f_X5_firstOf v1 σ = some r) : sMet l yX5_firstOf (sWs yX5_firstOf cX5_firstOf 4 (some .int)) 0 0 0 0 D cy ad X σ [.ref (ad 44), .int v1] (.inr (some (.int r))) X σ := by
  refine sMet_of (by decide +kernel) (Nat.le_of_ble_eq_true rfl) hap hl0 ?_
  intro p e s m args below meth c ls B hr htab hl h
  exact k_X5_firstOf_0 B hr _ _  hf _ _ _ h hl
set_option maxHeartbeats 4000000 in
set_option maxRecDepth 100000 in
theorem k_X5_isIn_42 {p : Program} {l : Launch} {e : Env} {s : State} {m : MethodId} {args : Array Value} {below : List Frame} {meth : Method} {c : Code} {D : va_G} {cy : Nat → ClassId} {ad : Nat → Nat} {X : sX} {r : Int32} (B : sB p l s m meth c args cX5_isIn 5 RX5 D cy ad) (hr : meth.sig.returnType = (some .boolean)) (v1 : Int32) (v2 : Int32) (vs0 : Int32) (σ : sM) (hf : b_X5_isIn_42 v1 v2 vs0 σ = some r) : sGo p l e { frames := 0, cells := 0, slots := 0, locals := 0 } s m args below meth c D cy ad X 5 (sQ below args s 0 0 D cy ad (.inr (some (.int r))) X σ) σ 42 [(0, .ref (ad 44)), (1, .int v1), (2, .int v2)] [.int vs0] := by
  replace hf : (chk (inb v1 4) (if (σ 53 (v1).toNatClampNeg) = 0 then (chk (inb v1 4) (if (σ 51 (v1).toNatClampNeg) ≤ v2 then (if vs0 = 0 then (some (0 : Int32)) else (some (0 : Int32))) else (if vs0 = 0 then (some (0 : Int32)) else (some (1 : Int32))))) else (chk (inb v1 4) (if (σ 51 (v1).toNatClampNeg) < v2 then (if vs0 = 0 then (some (0 : Int32)) else (some (0 : Int32))) else (if vs0 = 0 then (some (0 : Int32)) else (some (1 : Int32))))))) = some r := hf
  intro H locs ls h hl
  have hx := B.1
  have hb := B.2.1
  refine lv_istore_n (lv' := [(3, .int vs0), (0, .ref (ad 44)), (1, .int v1), (2, .int v2)]) hx hb dX5_isIn_42 rfl hl (by decide) rfl (fun ls hl => ?_)
  refine lv_aload_n hx hb dX5_isIn_43 rfl (lv_at hl 1 rfl) ?_
  refine g_get B h 44 (by decide) (C := RX5) (T := TX5) (N := 21) (M_row _) rfl hin_X5 8 (by decide) hw837 rfl rfl dX5_isIn_44 ?_
  refine lv_iload_n hx hb dX5_isIn_47 rfl (lv_at hl 2 rfl) ?_
  obtain ⟨c7, hf⟩ := chk_some hf
  refine g_zald B h 53 (by decide) (n := 4) (fun _ => rfl) (inb_in c7) dX5_isIn_48 ?_
  refine lv_if_eq (tgt := 70) hx hb dX5_isIn_49 (by decide) (fun c8 => ?_) (fun c8 => ?_)
  · rw [if_pos c8] at hf
    refine lv_iload_n hx hb dX5_isIn_70 rfl (lv_at hl 3 rfl) ?_
    refine lv_aload_n hx hb dX5_isIn_71 rfl (lv_at hl 1 rfl) ?_
    refine g_get B h 44 (by decide) (C := RX5) (T := TX5) (N := 21) (M_row _) rfl hin_X5 6 (by decide) hw835 rfl rfl dX5_isIn_72 ?_
    refine lv_iload_n hx hb dX5_isIn_75 rfl (lv_at hl 2 rfl) ?_
    obtain ⟨c9, hf⟩ := chk_some hf
    refine g_iald B h 51 (by decide) (n := 4) (fun _ => rfl) (inb_in c9) dX5_isIn_76 ?_
    refine lv_icmp_ge (tgt := 84) hx hb dX5_isIn_77 (by decide) (fun c10 => ?_) (fun c10 => ?_)
    · rw [if_pos c10] at hf
      refine lv_iconst (v := (0 : Int32)) hx hb dX5_isIn_84 (by decide) ?_
      refine lv_istore (lv' := [(4, .int (0 : Int32)), (3, .int vs0), (0, .ref (ad 44)), (1, .int v1), (2, .int v2)]) hx hb dX5_isIn_85 hl (by decide) rfl (fun ls hl => ?_)
      refine lv_iload_n hx hb dX5_isIn_87 rfl (lv_at hl 1 rfl) ?_
      refine lv_if_eq (tgt := 100) hx hb dX5_isIn_88 (by decide) (fun c11 => ?_) (fun c11 => ?_)
      · rw [if_pos c11] at hf
        refine lv_iconst (v := (0 : Int32)) hx hb dX5_isIn_100 (by decide) ?_
        cases hf
        exact sE_z B hr h rfl dX5_isIn_101
      · rw [if_neg c11] at hf
        refine lv_iload hx hb dX5_isIn_91 (lv_at hl 0 rfl) ?_
        refine lv_if_eq (tgt := 100) hx hb dX5_isIn_93 (by decide) (fun _ => ?_) (fun c12 => absurd (by decide) c12)
        refine lv_iconst (v := (0 : Int32)) hx hb dX5_isIn_100 (by decide) ?_
        cases hf
        exact sE_z B hr h rfl dX5_isIn_101
    · rw [if_neg c10] at hf
      refine lv_iconst (v := (1 : Int32)) hx hb dX5_isIn_80 (by decide) ?_
      refine lv_goto (tgt := 85) hx hb dX5_isIn_81 (by decide) ?_
      refine lv_istore (lv' := [(4, .int (1 : Int32)), (3, .int vs0), (0, .ref (ad 44)), (1, .int v1), (2, .int v2)]) hx hb dX5_isIn_85 hl (by decide) rfl (fun ls hl => ?_)
      refine lv_iload_n hx hb dX5_isIn_87 rfl (lv_at hl 1 rfl) ?_
      refine lv_if_eq (tgt := 100) hx hb dX5_isIn_88 (by decide) (fun c13 => ?_) (fun c13 => ?_)
      · rw [if_pos c13] at hf
        refine lv_iconst (v := (0 : Int32)) hx hb dX5_isIn_100 (by decide) ?_
        cases hf
        exact sE_z B hr h rfl dX5_isIn_101
      · rw [if_neg c13] at hf
        refine lv_iload hx hb dX5_isIn_91 (lv_at hl 0 rfl) ?_
        refine lv_if_eq (tgt := 100) hx hb dX5_isIn_93 (by decide) (fun c14 => absurd c14 (by decide)) (fun _ => ?_)
        refine lv_iconst (v := (1 : Int32)) hx hb dX5_isIn_96 (by decide) ?_
        refine lv_goto (tgt := 101) hx hb dX5_isIn_97 (by decide) ?_
        cases hf
        exact sE_z B hr h rfl dX5_isIn_101
  · rw [if_neg c8] at hf
    refine lv_iload_n hx hb dX5_isIn_52 rfl (lv_at hl 3 rfl) ?_
    refine lv_aload_n hx hb dX5_isIn_53 rfl (lv_at hl 1 rfl) ?_
    refine g_get B h 44 (by decide) (C := RX5) (T := TX5) (N := 21) (M_row _) rfl hin_X5 6 (by decide) hw835 rfl rfl dX5_isIn_54 ?_
    refine lv_iload_n hx hb dX5_isIn_57 rfl (lv_at hl 2 rfl) ?_
    obtain ⟨c15, hf⟩ := chk_some hf
    refine g_iald B h 51 (by decide) (n := 4) (fun _ => rfl) (inb_in c15) dX5_isIn_58 ?_
    refine lv_icmp_gt (tgt := 66) hx hb dX5_isIn_59 (by decide) (fun c16 => ?_) (fun c16 => ?_)
    · rw [if_pos c16] at hf
      refine lv_iconst (v := (0 : Int32)) hx hb dX5_isIn_66 (by decide) ?_
      refine lv_goto (tgt := 85) hx hb dX5_isIn_67 (by decide) ?_
      refine lv_istore (lv' := [(4, .int (0 : Int32)), (3, .int vs0), (0, .ref (ad 44)), (1, .int v1), (2, .int v2)]) hx hb dX5_isIn_85 hl (by decide) rfl (fun ls hl => ?_)
      refine lv_iload_n hx hb dX5_isIn_87 rfl (lv_at hl 1 rfl) ?_
      refine lv_if_eq (tgt := 100) hx hb dX5_isIn_88 (by decide) (fun c17 => ?_) (fun c17 => ?_)
      · rw [if_pos c17] at hf
        refine lv_iconst (v := (0 : Int32)) hx hb dX5_isIn_100 (by decide) ?_
        cases hf
        exact sE_z B hr h rfl dX5_isIn_101
      · rw [if_neg c17] at hf
        refine lv_iload hx hb dX5_isIn_91 (lv_at hl 0 rfl) ?_
        refine lv_if_eq (tgt := 100) hx hb dX5_isIn_93 (by decide) (fun _ => ?_) (fun c18 => absurd (by decide) c18)
        refine lv_iconst (v := (0 : Int32)) hx hb dX5_isIn_100 (by decide) ?_
        cases hf
        exact sE_z B hr h rfl dX5_isIn_101
    · rw [if_neg c16] at hf
      refine lv_iconst (v := (1 : Int32)) hx hb dX5_isIn_62 (by decide) ?_
      refine lv_goto (tgt := 85) hx hb dX5_isIn_63 (by decide) ?_
      refine lv_istore (lv' := [(4, .int (1 : Int32)), (3, .int vs0), (0, .ref (ad 44)), (1, .int v1), (2, .int v2)]) hx hb dX5_isIn_85 hl (by decide) rfl (fun ls hl => ?_)
      refine lv_iload_n hx hb dX5_isIn_87 rfl (lv_at hl 1 rfl) ?_
      refine lv_if_eq (tgt := 100) hx hb dX5_isIn_88 (by decide) (fun c19 => ?_) (fun c19 => ?_)
      · rw [if_pos c19] at hf
        refine lv_iconst (v := (0 : Int32)) hx hb dX5_isIn_100 (by decide) ?_
        cases hf
        exact sE_z B hr h rfl dX5_isIn_101
      · rw [if_neg c19] at hf
        refine lv_iload hx hb dX5_isIn_91 (lv_at hl 0 rfl) ?_
        refine lv_if_eq (tgt := 100) hx hb dX5_isIn_93 (by decide) (fun c20 => absurd c20 (by decide)) (fun _ => ?_)
        refine lv_iconst (v := (1 : Int32)) hx hb dX5_isIn_96 (by decide) ?_
        refine lv_goto (tgt := 101) hx hb dX5_isIn_97 (by decide) ?_
        cases hf
        exact sE_z B hr h rfl dX5_isIn_101
set_option maxHeartbeats 4000000 in
set_option maxRecDepth 100000 in
theorem k_X5_isIn_0 {p : Program} {l : Launch} {e : Env} {s : State} {m : MethodId} {args : Array Value} {below : List Frame} {meth : Method} {c : Code} {D : va_G} {cy : Nat → ClassId} {ad : Nat → Nat} {X : sX} {r : Int32} (B : sB p l s m meth c args cX5_isIn 5 RX5 D cy ad) (hr : meth.sig.returnType = (some .boolean)) (v1 : Int32) (v2 : Int32) (σ : sM) (hf : f_X5_isIn v1 v2 σ = some r) : sGo p l e { frames := 0, cells := 0, slots := 0, locals := 0 } s m args below meth c D cy ad X 5 (sQ below args s 0 0 D cy ad (.inr (some (.int r))) X σ) σ 0 [(0, .ref (ad 44)), (1, .int v1), (2, .int v2)] [] := by
  replace hf : (chk (inb v1 4) (if (σ 52 (v1).toNatClampNeg) = 0 then (chk (inb v1 4) (if v2 ≤ (σ 50 (v1).toNatClampNeg) then (b_X5_isIn_42 v1 v2 (0 : Int32) σ) else (b_X5_isIn_42 v1 v2 (1 : Int32) σ))) else (chk (inb v1 4) (if v2 < (σ 50 (v1).toNatClampNeg) then (b_X5_isIn_42 v1 v2 (0 : Int32) σ) else (b_X5_isIn_42 v1 v2 (1 : Int32) σ))))) = some r := hf
  intro H locs ls h hl
  have hx := B.1
  have hb := B.2.1
  refine lv_aload_n hx hb dX5_isIn_0 rfl (lv_at hl 0 rfl) ?_
  refine g_get B h 44 (by decide) (C := RX5) (T := TX5) (N := 21) (M_row _) rfl hin_X5 7 (by decide) hw836 rfl rfl dX5_isIn_1 ?_
  refine lv_iload_n hx hb dX5_isIn_4 rfl (lv_at hl 1 rfl) ?_
  obtain ⟨c1, hf⟩ := chk_some hf
  refine g_zald B h 52 (by decide) (n := 4) (fun _ => rfl) (inb_in c1) dX5_isIn_5 ?_
  refine lv_if_eq (tgt := 27) hx hb dX5_isIn_6 (by decide) (fun c2 => ?_) (fun c2 => ?_)
  · rw [if_pos c2] at hf
    refine lv_iload_n hx hb dX5_isIn_27 rfl (lv_at hl 2 rfl) ?_
    refine lv_aload_n hx hb dX5_isIn_28 rfl (lv_at hl 0 rfl) ?_
    refine g_get B h 44 (by decide) (C := RX5) (T := TX5) (N := 21) (M_row _) rfl hin_X5 5 (by decide) hw834 rfl rfl dX5_isIn_29 ?_
    refine lv_iload_n hx hb dX5_isIn_32 rfl (lv_at hl 1 rfl) ?_
    obtain ⟨c3, hf⟩ := chk_some hf
    refine g_iald B h 50 (by decide) (n := 4) (fun _ => rfl) (inb_in c3) dX5_isIn_33 ?_
    refine lv_icmp_le (tgt := 41) hx hb dX5_isIn_34 (by decide) (fun c4 => ?_) (fun c4 => ?_)
    · rw [if_pos c4] at hf
      refine lv_iconst (v := (0 : Int32)) hx hb dX5_isIn_41 (by decide) ?_
      exact k_X5_isIn_42 B hr  _ _ _ _ hf _ _ _ h (lv_sub hl [0, 1, 2] rfl)
    · rw [if_neg c4] at hf
      refine lv_iconst (v := (1 : Int32)) hx hb dX5_isIn_37 (by decide) ?_
      refine lv_goto (tgt := 42) hx hb dX5_isIn_38 (by decide) ?_
      exact k_X5_isIn_42 B hr  _ _ _ _ hf _ _ _ h (lv_sub hl [0, 1, 2] rfl)
  · rw [if_neg c2] at hf
    refine lv_iload_n hx hb dX5_isIn_9 rfl (lv_at hl 2 rfl) ?_
    refine lv_aload_n hx hb dX5_isIn_10 rfl (lv_at hl 0 rfl) ?_
    refine g_get B h 44 (by decide) (C := RX5) (T := TX5) (N := 21) (M_row _) rfl hin_X5 5 (by decide) hw834 rfl rfl dX5_isIn_11 ?_
    refine lv_iload_n hx hb dX5_isIn_14 rfl (lv_at hl 1 rfl) ?_
    obtain ⟨c5, hf⟩ := chk_some hf
    refine g_iald B h 50 (by decide) (n := 4) (fun _ => rfl) (inb_in c5) dX5_isIn_15 ?_
    refine lv_icmp_lt (tgt := 23) hx hb dX5_isIn_16 (by decide) (fun c6 => ?_) (fun c6 => ?_)
    · rw [if_pos c6] at hf
      refine lv_iconst (v := (0 : Int32)) hx hb dX5_isIn_23 (by decide) ?_
      refine lv_goto (tgt := 42) hx hb dX5_isIn_24 (by decide) ?_
      exact k_X5_isIn_42 B hr  _ _ _ _ hf _ _ _ h (lv_sub hl [0, 1, 2] rfl)
    · rw [if_neg c6] at hf
      refine lv_iconst (v := (1 : Int32)) hx hb dX5_isIn_19 (by decide) ?_
      refine lv_goto (tgt := 42) hx hb dX5_isIn_20 (by decide) ?_
      exact k_X5_isIn_42 B hr  _ _ _ _ hf _ _ _ h (lv_sub hl [0, 1, 2] rfl)
set_option maxRecDepth 100000 in
theorem ok_X5_isIn {l : Launch} (hl0 : l.stackTraces = false) {D : va_G} {cy : Nat → ClassId} {ad : Nat → Nat} (hap : sAp ad) (X : sX) (σ : sM) (v1 : Int32) (v2 : Int32) {r : Int32} (hf : f_X5_isIn v1 v2 σ = some r) : sMet l yX5_isIn (sWs yX5_isIn cX5_isIn 5 (some .boolean)) 0 0 0 0 D cy ad X σ [.ref (ad 44), .int v1, .int v2] (.inr (some (.int r))) X σ := by
  refine sMet_of (by decide +kernel) (Nat.le_of_ble_eq_true rfl) hap hl0 ?_
  intro p e s m args below meth c ls B hr htab hl h
  exact k_X5_isIn_0 B hr _ _ _  hf _ _ _ h hl
set_option maxHeartbeats 4000000 in
set_option maxRecDepth 100000 in
theorem k_X5_behindOf_13 {p : Program} {l : Launch} {e : Env} {s : State} {m : MethodId} {args : Array Value} {below : List Frame} {meth : Method} {c : Code} {D : va_G} {cy : Nat → ClassId} {ad : Nat → Nat} {X : sX} {r : Int32} (B : sB p l s m meth c args cX5_behindOf 4 RX5 D cy ad) (hr : meth.sig.returnType = (some .int)) : ∀ (n : Nat) (v1 : Int32) (v2 : Int32) (v3 : Int32) (σ : sM), b_X5_behindOf_13 n v1 v2 v3 σ = some r → sGo p l e { frames := 1, cells := 0, slots := 0, locals := 24 } s m args below meth c D cy ad X 4 (sQ below args s 0 0 D cy ad (.inr (some (.int r))) X σ) σ 13 [(0, .ref (ad 44)), (1, .int v1), (2, .int v2), (3, .int v3)] [] := by
  intro n
  induction n with
  | zero =>
    intro v1 v2 v3 σ hf
    exact nomatch (show none = some r from hf)
  | succ n ih =>
    intro v1 v2 v3 σ hf
    replace hf : (chk (inb v2 3) (if (σ 47 (v2).toNatClampNeg) ≤ v3 then (some v3) else (chk (inb (((60 : Int32) * v2) + v3) 180) (rthn (f_X5_isIn v1 (σ 45 ((((60 : Int32) * v2) + v3)).toNatClampNeg) σ) (fun vr6 => if vr6 = 0 then (some v3) else (b_X5_behindOf_13 n v1 v2 (v3 + 1) σ)))))) = some r := hf
    intro H locs ls h hl
    have hx := B.1
    have hb := B.2.1
    refine lv_iload_n hx hb dX5_behindOf_13 rfl (lv_at hl 3 rfl) ?_
    refine lv_aload_n hx hb dX5_behindOf_14 rfl (lv_at hl 0 rfl) ?_
    refine g_get B h 44 (by decide) (C := RX5) (T := TX5) (N := 21) (M_row _) rfl hin_X5 2 (by decide) hw831 rfl rfl dX5_behindOf_15 ?_
    refine lv_iload_n hx hb dX5_behindOf_18 rfl (lv_at hl 2 rfl) ?_
    obtain ⟨c3, hf⟩ := chk_some hf
    refine g_iald B h 47 (by decide) (n := 3) (fun _ => rfl) (inb_in c3) dX5_behindOf_19 ?_
    refine lv_icmp_ge (tgt := 48) hx hb dX5_behindOf_20 (by decide) (fun c4 => ?_) (fun c4 => ?_)
    · rw [if_pos c4] at hf
      refine lv_iload_n hx hb dX5_behindOf_48 rfl (lv_at hl 3 rfl) ?_
      cases hf
      exact sE_i B hr h dX5_behindOf_49
    · rw [if_neg c4] at hf
      refine lv_aload_n hx hb dX5_behindOf_23 rfl (lv_at hl 0 rfl) ?_
      refine lv_iload_n hx hb dX5_behindOf_24 rfl (lv_at hl 1 rfl) ?_
      refine lv_aload_n hx hb dX5_behindOf_25 rfl (lv_at hl 0 rfl) ?_
      refine g_get B h 44 (by decide) (C := RX5) (T := TX5) (N := 21) (M_row _) rfl hin_X5 0 (by decide) hw829 rfl rfl dX5_behindOf_26 ?_
      refine lv_bipush (v := (60 : Int32)) hx hb dX5_behindOf_29 (by decide) ?_
      refine lv_iload_n hx hb dX5_behindOf_31 rfl (lv_at hl 2 rfl) ?_
      refine lv_imul hx hb dX5_behindOf_32 ?_
      refine lv_iload_n hx hb dX5_behindOf_33 rfl (lv_at hl 3 rfl) ?_
      refine lv_iadd hx hb dX5_behindOf_34 ?_
      obtain ⟨c5, hf⟩ := chk_some hf
      refine g_iald B h 45 (by decide) (n := 180) (fun _ => rfl) (inb_in c5) dX5_behindOf_35 ?_
      obtain ⟨vr6, hq6, hf⟩ := rthn_some hf
      refine sRetC1 (g_runV (k := 44) (T := TX5) (N := 21) B h (ok_X5_isIn B.2.2.2.2.2.2.2.2 B.2.2.2.2.2.2.1 _ _ v1 (σ 45 ((((60 : Int32) * v2) + v3)).toNatClampNeg) hq6) cw_X5_120 ⟨Nat.le_of_ble_eq_true rfl, Nat.le_of_ble_eq_true rfl⟩ (by decide) (M_row _) rfl rfl hl.1.symm rfl (Nat.le_of_ble_eq_true rfl) dX5_behindOf_36 ⟨Nat.zero_le _, Nat.zero_le _⟩) h (fun H locs h => ?_)
      refine lv_if_eq (tgt := 48) hx hb dX5_behindOf_39 (by decide) (fun c7 => ?_) (fun c7 => ?_)
      · rw [if_pos c7] at hf
        refine lv_iload_n hx hb dX5_behindOf_48 rfl (lv_at hl 3 rfl) ?_
        cases hf
        exact sE_i B hr h dX5_behindOf_49
      · rw [if_neg c7] at hf
        refine lv_iinc (v := (v3 + 1)) (lv' := [(3, .int (v3 + 1)), (0, .ref (ad 44)), (1, .int v1), (2, .int v2)]) hx hb dX5_behindOf_42 hl (k := 3) rfl rfl (by decide) rfl (fun ls hl => ?_)
        refine lv_goto (tgt := 13) hx hb dX5_behindOf_45 (by decide) ?_
        exact ih _ _ _ _ hf _ _ _ h (lv_sub hl [1, 2, 3, 0] rfl)
set_option maxHeartbeats 4000000 in
set_option maxRecDepth 100000 in
theorem k_X5_behindOf_0 {p : Program} {l : Launch} {e : Env} {s : State} {m : MethodId} {args : Array Value} {below : List Frame} {meth : Method} {c : Code} {D : va_G} {cy : Nat → ClassId} {ad : Nat → Nat} {X : sX} {r : Int32} (B : sB p l s m meth c args cX5_behindOf 4 RX5 D cy ad) (hr : meth.sig.returnType = (some .int)) (v1 : Int32) (σ : sM) (hf : f_X5_behindOf v1 σ = some r) : sGo p l e { frames := 1, cells := 0, slots := 0, locals := 24 } s m args below meth c D cy ad X 4 (sQ below args s 0 0 D cy ad (.inr (some (.int r))) X σ) σ 0 [(0, .ref (ad 44)), (1, .int v1)] [] := by
  replace hf : (chk (inb v1 4) (rthn (f_X5_firstOf v1 σ) (fun vr2 => b_X5_behindOf_13 FU v1 (σ 49 (v1).toNatClampNeg) vr2 σ))) = some r := hf
  intro H locs ls h hl
  have hx := B.1
  have hb := B.2.1
  refine lv_aload_n hx hb dX5_behindOf_0 rfl (lv_at hl 0 rfl) ?_
  refine g_get B h 44 (by decide) (C := RX5) (T := TX5) (N := 21) (M_row _) rfl hin_X5 4 (by decide) hw833 rfl rfl dX5_behindOf_1 ?_
  refine lv_iload_n hx hb dX5_behindOf_4 rfl (lv_at hl 1 rfl) ?_
  obtain ⟨c1, hf⟩ := chk_some hf
  refine g_iald B h 49 (by decide) (n := 4) (fun _ => rfl) (inb_in c1) dX5_behindOf_5 ?_
  refine lv_istore_n (lv' := [(2, .int (σ 49 (v1).toNatClampNeg)), (0, .ref (ad 44)), (1, .int v1)]) hx hb dX5_behindOf_6 rfl hl (by decide) rfl (fun ls hl => ?_)
  refine lv_aload_n hx hb dX5_behindOf_7 rfl (lv_at hl 1 rfl) ?_
  refine lv_iload_n hx hb dX5_behindOf_8 rfl (lv_at hl 2 rfl) ?_
  obtain ⟨vr2, hq2, hf⟩ := rthn_some hf
  refine sRetC1 (g_runV (k := 44) (T := TX5) (N := 21) B h (ok_X5_firstOf B.2.2.2.2.2.2.2.2 B.2.2.2.2.2.2.1 _ _ v1 hq2) cw_X5_116 ⟨Nat.le_of_ble_eq_true rfl, Nat.le_of_ble_eq_true rfl⟩ (by decide) (M_row _) rfl rfl hl.1.symm rfl (Nat.le_of_ble_eq_true rfl) dX5_behindOf_9 ⟨Nat.zero_le _, Nat.zero_le _⟩) h (fun H locs h => ?_)
  refine lv_istore_n (lv' := [(3, .int vr2), (2, .int (σ 49 (v1).toNatClampNeg)), (0, .ref (ad 44)), (1, .int v1)]) hx hb dX5_behindOf_12 rfl hl (by decide) rfl (fun ls hl => ?_)
  exact k_X5_behindOf_13 B hr  _ _ _ _ _ hf _ _ _ h (lv_sub hl [2, 3, 1, 0] rfl)
set_option maxRecDepth 100000 in
theorem ok_X5_behindOf {l : Launch} (hl0 : l.stackTraces = false) {D : va_G} {cy : Nat → ClassId} {ad : Nat → Nat} (hap : sAp ad) (X : sX) (σ : sM) (v1 : Int32) {r : Int32} (hf : f_X5_behindOf v1 σ = some r) : sMet l yX5_behindOf (sWs yX5_behindOf cX5_behindOf 4 (some .int)) 1 24 0 0 D cy ad X σ [.ref (ad 44), .int v1] (.inr (some (.int r))) X σ := by
  refine sMet_of (by decide +kernel) (Nat.le_of_ble_eq_true rfl) hap hl0 ?_
  intro p e s m args below meth c ls B hr htab hl h
  exact k_X5_behindOf_0 B hr _ _  hf _ _ _ h hl
set_option maxHeartbeats 4000000 in
set_option maxRecDepth 100000 in
theorem k_X5_manyOf_0 {p : Program} {l : Launch} {e : Env} {s : State} {m : MethodId} {args : Array Value} {below : List Frame} {meth : Method} {c : Code} {D : va_G} {cy : Nat → ClassId} {ad : Nat → Nat} {X : sX} {r : Int32} (B : sB p l s m meth c args cX5_manyOf 2 RX5 D cy ad) (hr : meth.sig.returnType = (some .int)) (v1 : Int32) (σ : sM) (hf : f_X5_manyOf v1 σ = some r) : sGo p l e { frames := 2, cells := 0, slots := 0, locals := 47 } s m args below meth c D cy ad X 2 (sQ below args s 0 0 D cy ad (.inr (some (.int r))) X σ) σ 0 [(0, .ref (ad 44)), (1, .int v1)] [] := by
  replace hf : (rthn (f_X5_behindOf v1 σ) (fun vr1 => rthn (f_X5_firstOf v1 σ) (fun vr2 => some (vr1 - vr2)))) = some r := hf
  intro H locs ls h hl
  have hx := B.1
  have hb := B.2.1
  refine lv_aload_n hx hb dX5_manyOf_0 rfl (lv_at hl 0 rfl) ?_
  refine lv_iload_n hx hb dX5_manyOf_1 rfl (lv_at hl 1 rfl) ?_
  obtain ⟨vr1, hq1, hf⟩ := rthn_some hf
  refine sRetC1 (g_runV (k := 44) (T := TX5) (N := 21) B h (ok_X5_behindOf B.2.2.2.2.2.2.2.2 B.2.2.2.2.2.2.1 _ _ v1 hq1) cw_X5_123 ⟨Nat.le_of_ble_eq_true rfl, Nat.le_of_ble_eq_true rfl⟩ (by decide) (M_row _) rfl rfl hl.1.symm rfl (Nat.le_of_ble_eq_true rfl) dX5_manyOf_2 ⟨Nat.zero_le _, Nat.zero_le _⟩) h (fun H locs h => ?_)
  refine lv_aload_n hx hb dX5_manyOf_5 rfl (lv_at hl 0 rfl) ?_
  refine lv_iload_n hx hb dX5_manyOf_6 rfl (lv_at hl 1 rfl) ?_
  obtain ⟨vr2, hq2, hf⟩ := rthn_some hf
  refine sRetC1 (g_runV (k := 44) (T := TX5) (N := 21) B h (ok_X5_firstOf B.2.2.2.2.2.2.2.2 B.2.2.2.2.2.2.1 _ _ v1 hq2) cw_X5_116 ⟨Nat.le_of_ble_eq_true rfl, Nat.le_of_ble_eq_true rfl⟩ (by decide) (M_row _) rfl rfl hl.1.symm rfl (Nat.le_of_ble_eq_true rfl) dX5_manyOf_7 ⟨Nat.zero_le _, Nat.zero_le _⟩) h (fun H locs h => ?_)
  refine lv_isub hx hb dX5_manyOf_10 ?_
  cases hf
  exact sE_i B hr h dX5_manyOf_11
set_option maxRecDepth 100000 in
theorem ok_X5_manyOf {l : Launch} (hl0 : l.stackTraces = false) {D : va_G} {cy : Nat → ClassId} {ad : Nat → Nat} (hap : sAp ad) (X : sX) (σ : sM) (v1 : Int32) {r : Int32} (hf : f_X5_manyOf v1 σ = some r) : sMet l yX5_manyOf (sWs yX5_manyOf cX5_manyOf 2 (some .int)) 2 47 0 0 D cy ad X σ [.ref (ad 44), .int v1] (.inr (some (.int r))) X σ := by
  refine sMet_of (by decide +kernel) (Nat.le_of_ble_eq_true rfl) hap hl0 ?_
  intro p e s m args below meth c ls B hr htab hl h
  exact k_X5_manyOf_0 B hr _ _  hf _ _ _ h hl
set_option maxHeartbeats 4000000 in
set_option maxRecDepth 100000 in
theorem k_X5_checksum_33 {p : Program} {l : Launch} {e : Env} {s : State} {m : MethodId} {args : Array Value} {below : List Frame} {meth : Method} {c : Code} {D : va_G} {cy : Nat → ClassId} {ad : Nat → Nat} {X : sX} {r : Int64} {σ' : sM} (B : sB p l s m meth c args cX5_checksum 6 RX5 D cy ad) (hr : meth.sig.returnType = (some .long)) {K11 : Int64 → Int32 → sM → Option (Int64 × sM)} (hK11 : ∀ (v1 : Int64) (v3 : Int32) (σ : sM), K11 v1 v3 σ = some (r, σ') → sGo p l e { frames := 3, cells := 0, slots := 0, locals := 68 } s m args below meth c D cy ad X 6 (sQ below args s 0 0 D cy ad (.inr (some (.long r))) X σ') σ 11 [(0, .ref (ad 44)), (1, .long v1), (3, .int v3)] []) : ∀ (n : Nat) (v1 : Int64) (v3 : Int32) (v4 : Int32) (σ : sM), b_X5_checksum_33 K11 n v1 v3 v4 σ = some (r, σ') → sGo p l e { frames := 3, cells := 0, slots := 0, locals := 68 } s m args below meth c D cy ad X 6 (sQ below args s 0 0 D cy ad (.inr (some (.long r))) X σ') σ 33 [(0, .ref (ad 44)), (1, .long v1), (3, .int v3), (4, .int v4)] [] := by
  intro n
  induction n with
  | zero =>
    intro v1 v3 v4 σ hf
    exact nomatch (show none = some (r, σ') from hf)
  | succ n ih =>
    intro v1 v3 v4 σ hf
    replace hf : (chk (inb v3 3) (if (σ 47 (v3).toNatClampNeg) ≤ v4 then (K11 v1 (v3 + 1) σ) else (chk (inb (((60 : Int32) * v3) + v4) 180) (chk (inb (((60 : Int32) * v3) + v4) 180) (b_X5_checksum_33 K11 n (((31 : Int64) * (((31 : Int64) * v1) + ((σ 45 ((((60 : Int32) * v3) + v4)).toNatClampNeg).toInt64))) + ((σ 46 ((((60 : Int32) * v3) + v4)).toNatClampNeg).toInt64)) v3 (v4 + 1) σ))))) = some (r, σ') := hf
    intro H locs ls h hl
    have hx := B.1
    have hb := B.2.1
    refine lv_iload hx hb dX5_checksum_33 (lv_at hl 3 rfl) ?_
    refine lv_aload_n hx hb dX5_checksum_35 rfl (lv_at hl 0 rfl) ?_
    refine g_get B h 44 (by decide) (C := RX5) (T := TX5) (N := 21) (M_row _) rfl hin_X5 2 (by decide) hw831 rfl rfl dX5_checksum_36 ?_
    refine lv_iload_n hx hb dX5_checksum_39 rfl (lv_at hl 2 rfl) ?_
    obtain ⟨c8, hf⟩ := chk_some hf
    refine g_iald B h 47 (by decide) (n := 3) (fun _ => rfl) (inb_in c8) dX5_checksum_40 ?_
    refine lv_icmp_ge (tgt := 90) hx hb dX5_checksum_41 (by decide) (fun c9 => ?_) (fun c9 => ?_)
    · rw [if_pos c9] at hf
      refine lv_iinc (v := (v3 + 1)) (lv' := [(3, .int (v3 + 1)), (0, .ref (ad 44)), (1, .long v1), (4, .int v4)]) hx hb dX5_checksum_90 hl (k := 2) rfl rfl (by decide) rfl (fun ls hl => ?_)
      refine lv_goto (tgt := 11) hx hb dX5_checksum_93 (by decide) ?_
      exact hK11 _ _ _ hf _ _ _ h (lv_sub hl [1, 2, 0] rfl)
    · rw [if_neg c9] at hf
      refine lv_ldc2 (own := RX5) (v := (31 : Int64)) hx hb B.2.2.2.1 (B.2.2.2.2.1 _ hw1122) dX5_checksum_44 ?_
      refine lv_lload_n hx hb dX5_checksum_47 rfl (lv_at hl 1 rfl) ?_
      refine lv_lmul hx hb dX5_checksum_48 ?_
      refine lv_aload_n hx hb dX5_checksum_49 rfl (lv_at hl 0 rfl) ?_
      refine g_get B h 44 (by decide) (C := RX5) (T := TX5) (N := 21) (M_row _) rfl hin_X5 0 (by decide) hw829 rfl rfl dX5_checksum_50 ?_
      refine lv_bipush (v := (60 : Int32)) hx hb dX5_checksum_53 (by decide) ?_
      refine lv_iload_n hx hb dX5_checksum_55 rfl (lv_at hl 2 rfl) ?_
      refine lv_imul hx hb dX5_checksum_56 ?_
      refine lv_iload hx hb dX5_checksum_57 (lv_at hl 3 rfl) ?_
      refine lv_iadd hx hb dX5_checksum_59 ?_
      obtain ⟨c10, hf⟩ := chk_some hf
      refine g_iald B h 45 (by decide) (n := 180) (fun _ => rfl) (inb_in c10) dX5_checksum_60 ?_
      refine lv_i2l (v := ((σ 45 ((((60 : Int32) * v3) + v4)).toNatClampNeg).toInt64)) hx hb dX5_checksum_61 rfl ?_
      refine lv_ladd hx hb dX5_checksum_62 ?_
      refine lv_lstore_n (lv' := [(1, .long (((31 : Int64) * v1) + ((σ 45 ((((60 : Int32) * v3) + v4)).toNatClampNeg).toInt64))), (0, .ref (ad 44)), (3, .int v3), (4, .int v4)]) hx hb dX5_checksum_63 rfl hl (by decide) rfl (fun ls hl => ?_)
      refine lv_ldc2 (own := RX5) (v := (31 : Int64)) hx hb B.2.2.2.1 (B.2.2.2.2.1 _ hw1122) dX5_checksum_64 ?_
      refine lv_lload_n hx hb dX5_checksum_67 rfl (lv_at hl 0 rfl) ?_
      refine lv_lmul hx hb dX5_checksum_68 ?_
      refine lv_aload_n hx hb dX5_checksum_69 rfl (lv_at hl 1 rfl) ?_
      refine g_get B h 44 (by decide) (C := RX5) (T := TX5) (N := 21) (M_row _) rfl hin_X5 1 (by decide) hw830 rfl rfl dX5_checksum_70 ?_
      refine lv_bipush (v := (60 : Int32)) hx hb dX5_checksum_73 (by decide) ?_
      refine lv_iload_n hx hb dX5_checksum_75 rfl (lv_at hl 2 rfl) ?_
      refine lv_imul hx hb dX5_checksum_76 ?_
      refine lv_iload hx hb dX5_checksum_77 (lv_at hl 3 rfl) ?_
      refine lv_iadd hx hb dX5_checksum_79 ?_
      obtain ⟨c11, hf⟩ := chk_some hf
      refine g_iald B h 46 (by decide) (n := 180) (fun _ => rfl) (inb_in c11) dX5_checksum_80 ?_
      refine lv_i2l (v := ((σ 46 ((((60 : Int32) * v3) + v4)).toNatClampNeg).toInt64)) hx hb dX5_checksum_81 rfl ?_
      refine lv_ladd hx hb dX5_checksum_82 ?_
      refine lv_lstore_n (lv' := [(1, .long (((31 : Int64) * (((31 : Int64) * v1) + ((σ 45 ((((60 : Int32) * v3) + v4)).toNatClampNeg).toInt64))) + ((σ 46 ((((60 : Int32) * v3) + v4)).toNatClampNeg).toInt64))), (0, .ref (ad 44)), (3, .int v3), (4, .int v4)]) hx hb dX5_checksum_83 rfl hl (by decide) rfl (fun ls hl => ?_)
      refine lv_iinc (v := (v4 + 1)) (lv' := [(4, .int (v4 + 1)), (1, .long (((31 : Int64) * (((31 : Int64) * v1) + ((σ 45 ((((60 : Int32) * v3) + v4)).toNatClampNeg).toInt64))) + ((σ 46 ((((60 : Int32) * v3) + v4)).toNatClampNeg).toInt64))), (0, .ref (ad 44)), (3, .int v3)]) hx hb dX5_checksum_84 hl (k := 3) rfl rfl (by decide) rfl (fun ls hl => ?_)
      refine lv_goto (tgt := 33) hx hb dX5_checksum_87 (by decide) ?_
      exact ih _ _ _ _ hf _ _ _ h (lv_sub hl [2, 1, 3, 0] rfl)
set_option maxHeartbeats 4000000 in
set_option maxRecDepth 100000 in
theorem k_X5_checksum_173 {p : Program} {l : Launch} {e : Env} {s : State} {m : MethodId} {args : Array Value} {below : List Frame} {meth : Method} {c : Code} {D : va_G} {cy : Nat → ClassId} {ad : Nat → Nat} {X : sX} {r : Int64} {σ' : sM} (B : sB p l s m meth c args cX5_checksum 6 RX5 D cy ad) (hr : meth.sig.returnType = (some .long)) {K98 : Int64 → Int32 → sM → Option (Int64 × sM)} (hK98 : ∀ (v1 : Int64) (v3 : Int32) (σ : sM), K98 v1 v3 σ = some (r, σ') → sGo p l e { frames := 3, cells := 0, slots := 0, locals := 68 } s m args below meth c D cy ad X 6 (sQ below args s 0 0 D cy ad (.inr (some (.long r))) X σ') σ 98 [(0, .ref (ad 44)), (1, .long v1), (3, .int v3)] []) {K132 : Int64 → Int32 → Int32 → sM → Option (Int64 × sM)} (hK132 : ∀ (v1 : Int64) (v3 : Int32) (v4 : Int32) (σ : sM), K132 v1 v3 v4 σ = some (r, σ') → sGo p l e { frames := 3, cells := 0, slots := 0, locals := 68 } s m args below meth c D cy ad X 6 (sQ below args s 0 0 D cy ad (.inr (some (.long r))) X σ') σ 132 [(0, .ref (ad 44)), (1, .long v1), (3, .int v3), (4, .int v4)] []) (v1 : Int64) (v3 : Int32) (v4 : Int32) (vs0 : Int32) (σ : sM) (hf : b_X5_checksum_173 K98 K132 v1 v3 v4 vs0 σ = some (r, σ')) : sGo p l e { frames := 3, cells := 0, slots := 0, locals := 68 } s m args below meth c D cy ad X 6 (sQ below args s 0 0 D cy ad (.inr (some (.long r))) X σ') σ 173 [(0, .ref (ad 44)), (1, .long v1), (3, .int v3), (4, .int v4)] [.int vs0] := by
  replace hf : (if vs0 = 0 then (K132 v1 v3 (v4 + 1) σ) else (chk (inb v3 4) (chk (inb (((60 : Int32) * (σ 49 (v3).toNatClampNeg)) + v4) 180) (K132 (((31 : Int64) * v1) + ((σ 45 ((((60 : Int32) * (σ 49 (v3).toNatClampNeg)) + v4)).toNatClampNeg).toInt64)) v3 (v4 + 1) σ)))) = some (r, σ') := hf
  intro H locs ls h hl
  have hx := B.1
  have hb := B.2.1
  refine lv_istore (lv' := [(5, .int vs0), (0, .ref (ad 44)), (1, .long v1), (3, .int v3), (4, .int v4)]) hx hb dX5_checksum_173 hl (by decide) rfl (fun ls hl => ?_)
  refine lv_iload hx hb dX5_checksum_175 (lv_at hl 0 rfl) ?_
  refine lv_if_eq (tgt := 207) hx hb dX5_checksum_177 (by decide) (fun c26 => ?_) (fun c26 => ?_)
  · rw [if_pos c26] at hf
    refine lv_lload_n hx hb dX5_checksum_207 rfl (lv_at hl 2 rfl) ?_
    refine lv_lstore_n (lv' := [(1, .long v1), (5, .int vs0), (0, .ref (ad 44)), (3, .int v3), (4, .int v4)]) hx hb dX5_checksum_208 rfl hl (by decide) rfl (fun ls hl => ?_)
    refine lv_iinc (v := (v4 + 1)) (lv' := [(4, .int (v4 + 1)), (1, .long v1), (5, .int vs0), (0, .ref (ad 44)), (3, .int v3)]) hx hb dX5_checksum_209 hl (k := 4) rfl rfl (by decide) rfl (fun ls hl => ?_)
    refine lv_goto (tgt := 132) hx hb dX5_checksum_212 (by decide) ?_
    exact hK132 _ _ _ _ hf _ _ _ h (lv_sub hl [3, 1, 4, 0] rfl)
  · rw [if_neg c26] at hf
    refine lv_ldc2 (own := RX5) (v := (31 : Int64)) hx hb B.2.2.2.1 (B.2.2.2.2.1 _ hw1122) dX5_checksum_180 ?_
    refine lv_lload_n hx hb dX5_checksum_183 rfl (lv_at hl 2 rfl) ?_
    refine lv_lmul hx hb dX5_checksum_184 ?_
    refine lv_aload_n hx hb dX5_checksum_185 rfl (lv_at hl 1 rfl) ?_
    refine g_get B h 44 (by decide) (C := RX5) (T := TX5) (N := 21) (M_row _) rfl hin_X5 0 (by decide) hw829 rfl rfl dX5_checksum_186 ?_
    refine lv_bipush (v := (60 : Int32)) hx hb dX5_checksum_189 (by decide) ?_
    refine lv_aload_n hx hb dX5_checksum_191 rfl (lv_at hl 1 rfl) ?_
    refine g_get B h 44 (by decide) (C := RX5) (T := TX5) (N := 21) (M_row _) rfl hin_X5 4 (by decide) hw833 rfl rfl dX5_checksum_192 ?_
    refine lv_iload_n hx hb dX5_checksum_195 rfl (lv_at hl 3 rfl) ?_
    obtain ⟨c27, hf⟩ := chk_some hf
    refine g_iald B h 49 (by decide) (n := 4) (fun _ => rfl) (inb_in c27) dX5_checksum_196 ?_
    refine lv_imul hx hb dX5_checksum_197 ?_
    refine lv_iload hx hb dX5_checksum_198 (lv_at hl 4 rfl) ?_
    refine lv_iadd hx hb dX5_checksum_200 ?_
    obtain ⟨c28, hf⟩ := chk_some hf
    refine g_iald B h 45 (by decide) (n := 180) (fun _ => rfl) (inb_in c28) dX5_checksum_201 ?_
    refine lv_i2l (v := ((σ 45 ((((60 : Int32) * (σ 49 (v3).toNatClampNeg)) + v4)).toNatClampNeg).toInt64)) hx hb dX5_checksum_202 rfl ?_
    refine lv_ladd hx hb dX5_checksum_203 ?_
    refine lv_goto (tgt := 208) hx hb dX5_checksum_204 (by decide) ?_
    refine lv_lstore_n (lv' := [(1, .long (((31 : Int64) * v1) + ((σ 45 ((((60 : Int32) * (σ 49 (v3).toNatClampNeg)) + v4)).toNatClampNeg).toInt64))), (5, .int vs0), (0, .ref (ad 44)), (3, .int v3), (4, .int v4)]) hx hb dX5_checksum_208 rfl hl (by decide) rfl (fun ls hl => ?_)
    refine lv_iinc (v := (v4 + 1)) (lv' := [(4, .int (v4 + 1)), (1, .long (((31 : Int64) * v1) + ((σ 45 ((((60 : Int32) * (σ 49 (v3).toNatClampNeg)) + v4)).toNatClampNeg).toInt64))), (5, .int vs0), (0, .ref (ad 44)), (3, .int v3)]) hx hb dX5_checksum_209 hl (k := 4) rfl rfl (by decide) rfl (fun ls hl => ?_)
    refine lv_goto (tgt := 132) hx hb dX5_checksum_212 (by decide) ?_
    exact hK132 _ _ _ _ hf _ _ _ h (lv_sub hl [3, 1, 4, 0] rfl)
set_option maxHeartbeats 4000000 in
set_option maxRecDepth 100000 in
theorem k_X5_checksum_132 {p : Program} {l : Launch} {e : Env} {s : State} {m : MethodId} {args : Array Value} {below : List Frame} {meth : Method} {c : Code} {D : va_G} {cy : Nat → ClassId} {ad : Nat → Nat} {X : sX} {r : Int64} {σ' : sM} (B : sB p l s m meth c args cX5_checksum 6 RX5 D cy ad) (hr : meth.sig.returnType = (some .long)) {K98 : Int64 → Int32 → sM → Option (Int64 × sM)} (hK98 : ∀ (v1 : Int64) (v3 : Int32) (σ : sM), K98 v1 v3 σ = some (r, σ') → sGo p l e { frames := 3, cells := 0, slots := 0, locals := 68 } s m args below meth c D cy ad X 6 (sQ below args s 0 0 D cy ad (.inr (some (.long r))) X σ') σ 98 [(0, .ref (ad 44)), (1, .long v1), (3, .int v3)] []) : ∀ (n : Nat) (v1 : Int64) (v3 : Int32) (v4 : Int32) (σ : sM), b_X5_checksum_132 K98 n v1 v3 v4 σ = some (r, σ') → sGo p l e { frames := 3, cells := 0, slots := 0, locals := 68 } s m args below meth c D cy ad X 6 (sQ below args s 0 0 D cy ad (.inr (some (.long r))) X σ') σ 132 [(0, .ref (ad 44)), (1, .long v1), (3, .int v3), (4, .int v4)] [] := by
  intro n
  induction n with
  | zero =>
    intro v1 v3 v4 σ hf
    exact nomatch (show none = some (r, σ') from hf)
  | succ n ih =>
    intro v1 v3 v4 σ hf
    replace hf : (if (60 : Int32) ≤ v4 then (K98 v1 (v3 + 1) σ) else (chk (inb v3 4) (if (σ 48 (v3).toNatClampNeg) = 0 then (b_X5_checksum_173 K98 (b_X5_checksum_132 K98 n) v1 v3 v4 (0 : Int32) σ) else (rthn (f_X5_firstOf v3 σ) (fun vr17 => if v4 < vr17 then (b_X5_checksum_173 K98 (b_X5_checksum_132 K98 n) v1 v3 v4 (0 : Int32) σ) else (rthn (f_X5_behindOf v3 σ) (fun vr19 => if vr19 ≤ v4 then (b_X5_checksum_173 K98 (b_X5_checksum_132 K98 n) v1 v3 v4 (0 : Int32) σ) else (b_X5_checksum_173 K98 (b_X5_checksum_132 K98 n) v1 v3 v4 (1 : Int32) σ)))))))) = some (r, σ') := hf
    intro H locs ls h hl
    have hx := B.1
    have hb := B.2.1
    refine lv_iload hx hb dX5_checksum_132 (lv_at hl 3 rfl) ?_
    refine lv_bipush (v := (60 : Int32)) hx hb dX5_checksum_134 (by decide) ?_
    refine lv_icmp_ge (tgt := 215) hx hb dX5_checksum_136 (by decide) (fun c14 => ?_) (fun c14 => ?_)
    · rw [if_pos c14] at hf
      refine lv_iinc (v := (v3 + 1)) (lv' := [(3, .int (v3 + 1)), (0, .ref (ad 44)), (1, .long v1), (4, .int v4)]) hx hb dX5_checksum_215 hl (k := 2) rfl rfl (by decide) rfl (fun ls hl => ?_)
      refine lv_goto (tgt := 98) hx hb dX5_checksum_218 (by decide) ?_
      exact hK98 _ _ _ hf _ _ _ h (lv_sub hl [1, 2, 0] rfl)
    · rw [if_neg c14] at hf
      refine lv_aload_n hx hb dX5_checksum_139 rfl (lv_at hl 0 rfl) ?_
      refine g_get B h 44 (by decide) (C := RX5) (T := TX5) (N := 21) (M_row _) rfl hin_X5 3 (by decide) hw832 rfl rfl dX5_checksum_140 ?_
      refine lv_iload_n hx hb dX5_checksum_143 rfl (lv_at hl 2 rfl) ?_
      obtain ⟨c15, hf⟩ := chk_some hf
      refine g_zald B h 48 (by decide) (n := 4) (fun _ => rfl) (inb_in c15) dX5_checksum_144 ?_
      refine lv_if_eq (tgt := 172) hx hb dX5_checksum_145 (by decide) (fun c16 => ?_) (fun c16 => ?_)
      · rw [if_pos c16] at hf
        refine lv_iconst (v := (0 : Int32)) hx hb dX5_checksum_172 (by decide) ?_
        exact k_X5_checksum_173 B hr hK98 ih _ _ _ _ _ hf _ _ _ h (lv_sub hl [0, 1, 2, 3] rfl)
      · rw [if_neg c16] at hf
        refine lv_iload hx hb dX5_checksum_148 (lv_at hl 3 rfl) ?_
        refine lv_aload_n hx hb dX5_checksum_150 rfl (lv_at hl 0 rfl) ?_
        refine lv_iload_n hx hb dX5_checksum_151 rfl (lv_at hl 2 rfl) ?_
        obtain ⟨vr17, hq17, hf⟩ := rthn_some hf
        refine sRetC1 (g_runV (k := 44) (T := TX5) (N := 21) B h (ok_X5_firstOf B.2.2.2.2.2.2.2.2 B.2.2.2.2.2.2.1 _ _ v3 hq17) cw_X5_116 ⟨Nat.le_of_ble_eq_true rfl, Nat.le_of_ble_eq_true rfl⟩ (by decide) (M_row _) rfl rfl hl.1.symm rfl (Nat.le_of_ble_eq_true rfl) dX5_checksum_152 ⟨Nat.zero_le _, Nat.zero_le _⟩) h (fun H locs h => ?_)
        refine lv_icmp_lt (tgt := 172) hx hb dX5_checksum_155 (by decide) (fun c18 => ?_) (fun c18 => ?_)
        · rw [if_pos c18] at hf
          refine lv_iconst (v := (0 : Int32)) hx hb dX5_checksum_172 (by decide) ?_
          exact k_X5_checksum_173 B hr hK98 ih _ _ _ _ _ hf _ _ _ h (lv_sub hl [0, 1, 2, 3] rfl)
        · rw [if_neg c18] at hf
          refine lv_iload hx hb dX5_checksum_158 (lv_at hl 3 rfl) ?_
          refine lv_aload_n hx hb dX5_checksum_160 rfl (lv_at hl 0 rfl) ?_
          refine lv_iload_n hx hb dX5_checksum_161 rfl (lv_at hl 2 rfl) ?_
          obtain ⟨vr19, hq19, hf⟩ := rthn_some hf
          refine sRetC1 (g_runV (k := 44) (T := TX5) (N := 21) B h (ok_X5_behindOf B.2.2.2.2.2.2.2.2 B.2.2.2.2.2.2.1 _ _ v3 hq19) cw_X5_123 ⟨Nat.le_of_ble_eq_true rfl, Nat.le_of_ble_eq_true rfl⟩ (by decide) (M_row _) rfl rfl hl.1.symm rfl (Nat.le_of_ble_eq_true rfl) dX5_checksum_162 ⟨Nat.zero_le _, Nat.zero_le _⟩) h (fun H locs h => ?_)
          refine lv_icmp_ge (tgt := 172) hx hb dX5_checksum_165 (by decide) (fun c20 => ?_) (fun c20 => ?_)
          · rw [if_pos c20] at hf
            refine lv_iconst (v := (0 : Int32)) hx hb dX5_checksum_172 (by decide) ?_
            exact k_X5_checksum_173 B hr hK98 ih _ _ _ _ _ hf _ _ _ h (lv_sub hl [0, 1, 2, 3] rfl)
          · rw [if_neg c20] at hf
            refine lv_iconst (v := (1 : Int32)) hx hb dX5_checksum_168 (by decide) ?_
            refine lv_goto (tgt := 173) hx hb dX5_checksum_169 (by decide) ?_
            exact k_X5_checksum_173 B hr hK98 ih _ _ _ _ _ hf _ _ _ h (lv_sub hl [0, 1, 2, 3] rfl)
set_option maxHeartbeats 4000000 in
set_option maxRecDepth 100000 in
theorem k_X5_checksum_245 {p : Program} {l : Launch} {e : Env} {s : State} {m : MethodId} {args : Array Value} {below : List Frame} {meth : Method} {c : Code} {D : va_G} {cy : Nat → ClassId} {ad : Nat → Nat} {X : sX} {r : Int64} {σ' : sM} (B : sB p l s m meth c args cX5_checksum 6 RX5 D cy ad) (hr : meth.sig.returnType = (some .long)) {K223 : Int64 → Int32 → sM → Option (Int64 × sM)} (hK223 : ∀ (v1 : Int64) (v3 : Int32) (σ : sM), K223 v1 v3 σ = some (r, σ') → sGo p l e { frames := 3, cells := 0, slots := 0, locals := 68 } s m args below meth c D cy ad X 6 (sQ below args s 0 0 D cy ad (.inr (some (.long r))) X σ') σ 223 [(0, .ref (ad 44)), (1, .long v1), (3, .int v3)] []) : ∀ (n : Nat) (v1 : Int64) (v3 : Int32) (v4 : Int32) (σ : sM), b_X5_checksum_245 K223 n v1 v3 v4 σ = some (r, σ') → sGo p l e { frames := 3, cells := 0, slots := 0, locals := 68 } s m args below meth c D cy ad X 6 (sQ below args s 0 0 D cy ad (.inr (some (.long r))) X σ') σ 245 [(0, .ref (ad 44)), (1, .long v1), (3, .int v3), (4, .int v4)] [] := by
  intro n
  induction n with
  | zero =>
    intro v1 v3 v4 σ hf
    exact nomatch (show none = some (r, σ') from hf)
  | succ n ih =>
    intro v1 v3 v4 σ hf
    replace hf : (chk (inb v3 3) (if (σ 58 (v3).toNatClampNeg) ≤ v4 then (K223 v1 (v3 + 1) σ) else (chk (inb (((30 : Int32) * v3) + v4) 90) (chk (inb (((30 : Int32) * v3) + v4) 90) (chk (inb (((30 : Int32) * v3) + v4) 90) (b_X5_checksum_245 K223 n (((31 : Int64) * (((31 : Int64) * (((31 : Int64) * v1) + ((σ 55 ((((30 : Int32) * v3) + v4)).toNatClampNeg).toInt64))) + ((σ 56 ((((30 : Int32) * v3) + v4)).toNatClampNeg).toInt64))) + ((σ 57 ((((30 : Int32) * v3) + v4)).toNatClampNeg).toInt64)) v3 (v4 + 1) σ)))))) = some (r, σ') := hf
    intro H locs ls h hl
    have hx := B.1
    have hb := B.2.1
    refine lv_iload hx hb dX5_checksum_245 (lv_at hl 3 rfl) ?_
    refine lv_aload_n hx hb dX5_checksum_247 rfl (lv_at hl 0 rfl) ?_
    refine g_get B h 44 (by decide) (C := RX5) (T := TX5) (N := 21) (M_row _) rfl hin_X5 13 (by decide) hw842 rfl rfl dX5_checksum_248 ?_
    refine lv_iload_n hx hb dX5_checksum_251 rfl (lv_at hl 2 rfl) ?_
    obtain ⟨c21, hf⟩ := chk_some hf
    refine g_iald B h 58 (by decide) (n := 3) (fun _ => rfl) (inb_in c21) dX5_checksum_252 ?_
    refine lv_icmp_ge (tgt := 322) hx hb dX5_checksum_253 (by decide) (fun c22 => ?_) (fun c22 => ?_)
    · rw [if_pos c22] at hf
      refine lv_iinc (v := (v3 + 1)) (lv' := [(3, .int (v3 + 1)), (0, .ref (ad 44)), (1, .long v1), (4, .int v4)]) hx hb dX5_checksum_322 hl (k := 2) rfl rfl (by decide) rfl (fun ls hl => ?_)
      refine lv_goto (tgt := 223) hx hb dX5_checksum_325 (by decide) ?_
      exact hK223 _ _ _ hf _ _ _ h (lv_sub hl [1, 2, 0] rfl)
    · rw [if_neg c22] at hf
      refine lv_ldc2 (own := RX5) (v := (31 : Int64)) hx hb B.2.2.2.1 (B.2.2.2.2.1 _ hw1122) dX5_checksum_256 ?_
      refine lv_lload_n hx hb dX5_checksum_259 rfl (lv_at hl 1 rfl) ?_
      refine lv_lmul hx hb dX5_checksum_260 ?_
      refine lv_aload_n hx hb dX5_checksum_261 rfl (lv_at hl 0 rfl) ?_
      refine g_get B h 44 (by decide) (C := RX5) (T := TX5) (N := 21) (M_row _) rfl hin_X5 10 (by decide) hw839 rfl rfl dX5_checksum_262 ?_
      refine lv_bipush (v := (30 : Int32)) hx hb dX5_checksum_265 (by decide) ?_
      refine lv_iload_n hx hb dX5_checksum_267 rfl (lv_at hl 2 rfl) ?_
      refine lv_imul hx hb dX5_checksum_268 ?_
      refine lv_iload hx hb dX5_checksum_269 (lv_at hl 3 rfl) ?_
      refine lv_iadd hx hb dX5_checksum_271 ?_
      obtain ⟨c23, hf⟩ := chk_some hf
      refine g_cald B h 55 (by decide) (n := 90) (fun _ => rfl) (inb_in c23) dX5_checksum_272 ?_
      refine lv_i2l (v := ((σ 55 ((((30 : Int32) * v3) + v4)).toNatClampNeg).toInt64)) hx hb dX5_checksum_273 rfl ?_
      refine lv_ladd hx hb dX5_checksum_274 ?_
      refine lv_lstore_n (lv' := [(1, .long (((31 : Int64) * v1) + ((σ 55 ((((30 : Int32) * v3) + v4)).toNatClampNeg).toInt64))), (0, .ref (ad 44)), (3, .int v3), (4, .int v4)]) hx hb dX5_checksum_275 rfl hl (by decide) rfl (fun ls hl => ?_)
      refine lv_ldc2 (own := RX5) (v := (31 : Int64)) hx hb B.2.2.2.1 (B.2.2.2.2.1 _ hw1122) dX5_checksum_276 ?_
      refine lv_lload_n hx hb dX5_checksum_279 rfl (lv_at hl 0 rfl) ?_
      refine lv_lmul hx hb dX5_checksum_280 ?_
      refine lv_aload_n hx hb dX5_checksum_281 rfl (lv_at hl 1 rfl) ?_
      refine g_get B h 44 (by decide) (C := RX5) (T := TX5) (N := 21) (M_row _) rfl hin_X5 11 (by decide) hw840 rfl rfl dX5_checksum_282 ?_
      refine lv_bipush (v := (30 : Int32)) hx hb dX5_checksum_285 (by decide) ?_
      refine lv_iload_n hx hb dX5_checksum_287 rfl (lv_at hl 2 rfl) ?_
      refine lv_imul hx hb dX5_checksum_288 ?_
      refine lv_iload hx hb dX5_checksum_289 (lv_at hl 3 rfl) ?_
      refine lv_iadd hx hb dX5_checksum_291 ?_
      obtain ⟨c24, hf⟩ := chk_some hf
      refine g_iald B h 56 (by decide) (n := 90) (fun _ => rfl) (inb_in c24) dX5_checksum_292 ?_
      refine lv_i2l (v := ((σ 56 ((((30 : Int32) * v3) + v4)).toNatClampNeg).toInt64)) hx hb dX5_checksum_293 rfl ?_
      refine lv_ladd hx hb dX5_checksum_294 ?_
      refine lv_lstore_n (lv' := [(1, .long (((31 : Int64) * (((31 : Int64) * v1) + ((σ 55 ((((30 : Int32) * v3) + v4)).toNatClampNeg).toInt64))) + ((σ 56 ((((30 : Int32) * v3) + v4)).toNatClampNeg).toInt64))), (0, .ref (ad 44)), (3, .int v3), (4, .int v4)]) hx hb dX5_checksum_295 rfl hl (by decide) rfl (fun ls hl => ?_)
      refine lv_ldc2 (own := RX5) (v := (31 : Int64)) hx hb B.2.2.2.1 (B.2.2.2.2.1 _ hw1122) dX5_checksum_296 ?_
      refine lv_lload_n hx hb dX5_checksum_299 rfl (lv_at hl 0 rfl) ?_
      refine lv_lmul hx hb dX5_checksum_300 ?_
      refine lv_aload_n hx hb dX5_checksum_301 rfl (lv_at hl 1 rfl) ?_
      refine g_get B h 44 (by decide) (C := RX5) (T := TX5) (N := 21) (M_row _) rfl hin_X5 12 (by decide) hw841 rfl rfl dX5_checksum_302 ?_
      refine lv_bipush (v := (30 : Int32)) hx hb dX5_checksum_305 (by decide) ?_
      refine lv_iload_n hx hb dX5_checksum_307 rfl (lv_at hl 2 rfl) ?_
      refine lv_imul hx hb dX5_checksum_308 ?_
      refine lv_iload hx hb dX5_checksum_309 (lv_at hl 3 rfl) ?_
      refine lv_iadd hx hb dX5_checksum_311 ?_
      obtain ⟨c25, hf⟩ := chk_some hf
      refine g_iald B h 57 (by decide) (n := 90) (fun _ => rfl) (inb_in c25) dX5_checksum_312 ?_
      refine lv_i2l (v := ((σ 57 ((((30 : Int32) * v3) + v4)).toNatClampNeg).toInt64)) hx hb dX5_checksum_313 rfl ?_
      refine lv_ladd hx hb dX5_checksum_314 ?_
      refine lv_lstore_n (lv' := [(1, .long (((31 : Int64) * (((31 : Int64) * (((31 : Int64) * v1) + ((σ 55 ((((30 : Int32) * v3) + v4)).toNatClampNeg).toInt64))) + ((σ 56 ((((30 : Int32) * v3) + v4)).toNatClampNeg).toInt64))) + ((σ 57 ((((30 : Int32) * v3) + v4)).toNatClampNeg).toInt64))), (0, .ref (ad 44)), (3, .int v3), (4, .int v4)]) hx hb dX5_checksum_315 rfl hl (by decide) rfl (fun ls hl => ?_)
      refine lv_iinc (v := (v4 + 1)) (lv' := [(4, .int (v4 + 1)), (1, .long (((31 : Int64) * (((31 : Int64) * (((31 : Int64) * v1) + ((σ 55 ((((30 : Int32) * v3) + v4)).toNatClampNeg).toInt64))) + ((σ 56 ((((30 : Int32) * v3) + v4)).toNatClampNeg).toInt64))) + ((σ 57 ((((30 : Int32) * v3) + v4)).toNatClampNeg).toInt64))), (0, .ref (ad 44)), (3, .int v3)]) hx hb dX5_checksum_316 hl (k := 3) rfl rfl (by decide) rfl (fun ls hl => ?_)
      refine lv_goto (tgt := 245) hx hb dX5_checksum_319 (by decide) ?_
      exact ih _ _ _ _ hf _ _ _ h (lv_sub hl [2, 1, 3, 0] rfl)
set_option maxHeartbeats 4000000 in
set_option maxRecDepth 100000 in
theorem k_X5_checksum_223 {p : Program} {l : Launch} {e : Env} {s : State} {m : MethodId} {args : Array Value} {below : List Frame} {meth : Method} {c : Code} {D : va_G} {cy : Nat → ClassId} {ad : Nat → Nat} {X : sX} {r : Int64} {σ' : sM} (B : sB p l s m meth c args cX5_checksum 6 RX5 D cy ad) (hr : meth.sig.returnType = (some .long)) : ∀ (n : Nat) (v1 : Int64) (v3 : Int32) (σ : sM), b_X5_checksum_223 n v1 v3 σ = some (r, σ') → sGo p l e { frames := 3, cells := 0, slots := 0, locals := 68 } s m args below meth c D cy ad X 6 (sQ below args s 0 0 D cy ad (.inr (some (.long r))) X σ') σ 223 [(0, .ref (ad 44)), (1, .long v1), (3, .int v3)] [] := by
  intro n
  induction n with
  | zero =>
    intro v1 v3 σ hf
    exact nomatch (show none = some (r, σ') from hf)
  | succ n ih =>
    intro v1 v3 σ hf
    replace hf : (if (3 : Int32) ≤ v3 then (some (v1, σ)) else (chk (inb v3 3) (b_X5_checksum_245 (b_X5_checksum_223 n) FU (((31 : Int64) * v1) + ((σ 58 (v3).toNatClampNeg).toInt64)) v3 (0 : Int32) σ))) = some (r, σ') := hf
    intro H locs ls h hl
    have hx := B.1
    have hb := B.2.1
    refine lv_iload_n hx hb dX5_checksum_223 rfl (lv_at hl 2 rfl) ?_
    refine lv_iconst (v := (3 : Int32)) hx hb dX5_checksum_224 (by decide) ?_
    refine lv_icmp_ge (tgt := 328) hx hb dX5_checksum_225 (by decide) (fun c12 => ?_) (fun c12 => ?_)
    · rw [if_pos c12] at hf
      refine lv_lload_n hx hb dX5_checksum_328 rfl (lv_at hl 1 rfl) ?_
      cases hf
      exact sE_l B hr h dX5_checksum_329
    · rw [if_neg c12] at hf
      refine lv_ldc2 (own := RX5) (v := (31 : Int64)) hx hb B.2.2.2.1 (B.2.2.2.2.1 _ hw1122) dX5_checksum_228 ?_
      refine lv_lload_n hx hb dX5_checksum_231 rfl (lv_at hl 1 rfl) ?_
      refine lv_lmul hx hb dX5_checksum_232 ?_
      refine lv_aload_n hx hb dX5_checksum_233 rfl (lv_at hl 0 rfl) ?_
      refine g_get B h 44 (by decide) (C := RX5) (T := TX5) (N := 21) (M_row _) rfl hin_X5 13 (by decide) hw842 rfl rfl dX5_checksum_234 ?_
      refine lv_iload_n hx hb dX5_checksum_237 rfl (lv_at hl 2 rfl) ?_
      obtain ⟨c13, hf⟩ := chk_some hf
      refine g_iald B h 58 (by decide) (n := 3) (fun _ => rfl) (inb_in c13) dX5_checksum_238 ?_
      refine lv_i2l (v := ((σ 58 (v3).toNatClampNeg).toInt64)) hx hb dX5_checksum_239 rfl ?_
      refine lv_ladd hx hb dX5_checksum_240 ?_
      refine lv_lstore_n (lv' := [(1, .long (((31 : Int64) * v1) + ((σ 58 (v3).toNatClampNeg).toInt64))), (0, .ref (ad 44)), (3, .int v3)]) hx hb dX5_checksum_241 rfl hl (by decide) rfl (fun ls hl => ?_)
      refine lv_iconst (v := (0 : Int32)) hx hb dX5_checksum_242 (by decide) ?_
      refine lv_istore (lv' := [(4, .int (0 : Int32)), (1, .long (((31 : Int64) * v1) + ((σ 58 (v3).toNatClampNeg).toInt64))), (0, .ref (ad 44)), (3, .int v3)]) hx hb dX5_checksum_243 hl (by decide) rfl (fun ls hl => ?_)
      exact k_X5_checksum_245 B hr ih _ _ _ _ _ hf _ _ _ h (lv_sub hl [2, 1, 3, 0] rfl)
set_option maxHeartbeats 4000000 in
set_option maxRecDepth 100000 in
theorem k_X5_checksum_98 {p : Program} {l : Launch} {e : Env} {s : State} {m : MethodId} {args : Array Value} {below : List Frame} {meth : Method} {c : Code} {D : va_G} {cy : Nat → ClassId} {ad : Nat → Nat} {X : sX} {r : Int64} {σ' : sM} (B : sB p l s m meth c args cX5_checksum 6 RX5 D cy ad) (hr : meth.sig.returnType = (some .long)) : ∀ (n : Nat) (v1 : Int64) (v3 : Int32) (σ : sM), b_X5_checksum_98 n v1 v3 σ = some (r, σ') → sGo p l e { frames := 3, cells := 0, slots := 0, locals := 68 } s m args below meth c D cy ad X 6 (sQ below args s 0 0 D cy ad (.inr (some (.long r))) X σ') σ 98 [(0, .ref (ad 44)), (1, .long v1), (3, .int v3)] [] := by
  intro n
  induction n with
  | zero =>
    intro v1 v3 σ hf
    exact nomatch (show none = some (r, σ') from hf)
  | succ n ih =>
    intro v1 v3 σ hf
    replace hf : (if (4 : Int32) ≤ v3 then (b_X5_checksum_223 FU v1 (0 : Int32) σ) else (chk (inb v3 4) (if (σ 48 (v3).toNatClampNeg) = 0 then (b_X5_checksum_132 (b_X5_checksum_98 n) FU (((31 : Int64) * v1) + ((-1 : Int32).toInt64)) v3 (0 : Int32) σ) else (rthn (f_X5_manyOf v3 σ) (fun vr7 => b_X5_checksum_132 (b_X5_checksum_98 n) FU (((31 : Int64) * v1) + (vr7.toInt64)) v3 (0 : Int32) σ))))) = some (r, σ') := hf
    intro H locs ls h hl
    have hx := B.1
    have hb := B.2.1
    refine lv_iload_n hx hb dX5_checksum_98 rfl (lv_at hl 2 rfl) ?_
    refine lv_iconst (v := (4 : Int32)) hx hb dX5_checksum_99 (by decide) ?_
    refine lv_icmp_ge (tgt := 221) hx hb dX5_checksum_100 (by decide) (fun c4 => ?_) (fun c4 => ?_)
    · rw [if_pos c4] at hf
      refine lv_iconst (v := (0 : Int32)) hx hb dX5_checksum_221 (by decide) ?_
      refine lv_istore_n (lv' := [(3, .int (0 : Int32)), (0, .ref (ad 44)), (1, .long v1)]) hx hb dX5_checksum_222 rfl hl (by decide) rfl (fun ls hl => ?_)
      exact k_X5_checksum_223 B hr  _ _ _ _ hf _ _ _ h (lv_sub hl [1, 2, 0] rfl)
    · rw [if_neg c4] at hf
      refine lv_ldc2 (own := RX5) (v := (31 : Int64)) hx hb B.2.2.2.1 (B.2.2.2.2.1 _ hw1122) dX5_checksum_103 ?_
      refine lv_lload_n hx hb dX5_checksum_106 rfl (lv_at hl 1 rfl) ?_
      refine lv_lmul hx hb dX5_checksum_107 ?_
      refine lv_aload_n hx hb dX5_checksum_108 rfl (lv_at hl 0 rfl) ?_
      refine g_get B h 44 (by decide) (C := RX5) (T := TX5) (N := 21) (M_row _) rfl hin_X5 3 (by decide) hw832 rfl rfl dX5_checksum_109 ?_
      refine lv_iload_n hx hb dX5_checksum_112 rfl (lv_at hl 2 rfl) ?_
      obtain ⟨c5, hf⟩ := chk_some hf
      refine g_zald B h 48 (by decide) (n := 4) (fun _ => rfl) (inb_in c5) dX5_checksum_113 ?_
      refine lv_if_eq (tgt := 125) hx hb dX5_checksum_114 (by decide) (fun c6 => ?_) (fun c6 => ?_)
      · rw [if_pos c6] at hf
        refine lv_iconst (v := (-1 : Int32)) hx hb dX5_checksum_125 (by decide) ?_
        refine lv_i2l (v := ((-1 : Int32).toInt64)) hx hb dX5_checksum_126 rfl ?_
        refine lv_ladd hx hb dX5_checksum_127 ?_
        refine lv_lstore_n (lv' := [(1, .long (((31 : Int64) * v1) + ((-1 : Int32).toInt64))), (0, .ref (ad 44)), (3, .int v3)]) hx hb dX5_checksum_128 rfl hl (by decide) rfl (fun ls hl => ?_)
        refine lv_iconst (v := (0 : Int32)) hx hb dX5_checksum_129 (by decide) ?_
        refine lv_istore (lv' := [(4, .int (0 : Int32)), (1, .long (((31 : Int64) * v1) + ((-1 : Int32).toInt64))), (0, .ref (ad 44)), (3, .int v3)]) hx hb dX5_checksum_130 hl (by decide) rfl (fun ls hl => ?_)
        exact k_X5_checksum_132 B hr ih _ _ _ _ _ hf _ _ _ h (lv_sub hl [2, 1, 3, 0] rfl)
      · rw [if_neg c6] at hf
        refine lv_aload_n hx hb dX5_checksum_117 rfl (lv_at hl 0 rfl) ?_
        refine lv_iload_n hx hb dX5_checksum_118 rfl (lv_at hl 2 rfl) ?_
        obtain ⟨vr7, hq7, hf⟩ := rthn_some hf
        refine sRetC1 (g_runV (k := 44) (T := TX5) (N := 21) B h (ok_X5_manyOf B.2.2.2.2.2.2.2.2 B.2.2.2.2.2.2.1 _ _ v3 hq7) cw_X5_129 ⟨Nat.le_of_ble_eq_true rfl, Nat.le_of_ble_eq_true rfl⟩ (by decide) (M_row _) rfl rfl hl.1.symm rfl (Nat.le_of_ble_eq_true rfl) dX5_checksum_119 ⟨Nat.zero_le _, Nat.zero_le _⟩) h (fun H locs h => ?_)
        refine lv_goto (tgt := 126) hx hb dX5_checksum_122 (by decide) ?_
        refine lv_i2l (v := (vr7.toInt64)) hx hb dX5_checksum_126 rfl ?_
        refine lv_ladd hx hb dX5_checksum_127 ?_
        refine lv_lstore_n (lv' := [(1, .long (((31 : Int64) * v1) + (vr7.toInt64))), (0, .ref (ad 44)), (3, .int v3)]) hx hb dX5_checksum_128 rfl hl (by decide) rfl (fun ls hl => ?_)
        refine lv_iconst (v := (0 : Int32)) hx hb dX5_checksum_129 (by decide) ?_
        refine lv_istore (lv' := [(4, .int (0 : Int32)), (1, .long (((31 : Int64) * v1) + (vr7.toInt64))), (0, .ref (ad 44)), (3, .int v3)]) hx hb dX5_checksum_130 hl (by decide) rfl (fun ls hl => ?_)
        exact k_X5_checksum_132 B hr ih _ _ _ _ _ hf _ _ _ h (lv_sub hl [2, 1, 3, 0] rfl)
set_option maxHeartbeats 4000000 in
set_option maxRecDepth 100000 in
theorem k_X5_checksum_11 {p : Program} {l : Launch} {e : Env} {s : State} {m : MethodId} {args : Array Value} {below : List Frame} {meth : Method} {c : Code} {D : va_G} {cy : Nat → ClassId} {ad : Nat → Nat} {X : sX} {r : Int64} {σ' : sM} (B : sB p l s m meth c args cX5_checksum 6 RX5 D cy ad) (hr : meth.sig.returnType = (some .long)) : ∀ (n : Nat) (v1 : Int64) (v3 : Int32) (σ : sM), b_X5_checksum_11 n v1 v3 σ = some (r, σ') → sGo p l e { frames := 3, cells := 0, slots := 0, locals := 68 } s m args below meth c D cy ad X 6 (sQ below args s 0 0 D cy ad (.inr (some (.long r))) X σ') σ 11 [(0, .ref (ad 44)), (1, .long v1), (3, .int v3)] [] := by
  intro n
  induction n with
  | zero =>
    intro v1 v3 σ hf
    exact nomatch (show none = some (r, σ') from hf)
  | succ n ih =>
    intro v1 v3 σ hf
    replace hf : (if (3 : Int32) ≤ v3 then (b_X5_checksum_98 FU v1 (0 : Int32) σ) else (chk (inb v3 3) (b_X5_checksum_33 (b_X5_checksum_11 n) FU (((31 : Int64) * v1) + ((σ 47 (v3).toNatClampNeg).toInt64)) v3 (0 : Int32) σ))) = some (r, σ') := hf
    intro H locs ls h hl
    have hx := B.1
    have hb := B.2.1
    refine lv_iload_n hx hb dX5_checksum_11 rfl (lv_at hl 2 rfl) ?_
    refine lv_iconst (v := (3 : Int32)) hx hb dX5_checksum_12 (by decide) ?_
    refine lv_icmp_ge (tgt := 96) hx hb dX5_checksum_13 (by decide) (fun c2 => ?_) (fun c2 => ?_)
    · rw [if_pos c2] at hf
      refine lv_iconst (v := (0 : Int32)) hx hb dX5_checksum_96 (by decide) ?_
      refine lv_istore_n (lv' := [(3, .int (0 : Int32)), (0, .ref (ad 44)), (1, .long v1)]) hx hb dX5_checksum_97 rfl hl (by decide) rfl (fun ls hl => ?_)
      exact k_X5_checksum_98 B hr  _ _ _ _ hf _ _ _ h (lv_sub hl [1, 2, 0] rfl)
    · rw [if_neg c2] at hf
      refine lv_ldc2 (own := RX5) (v := (31 : Int64)) hx hb B.2.2.2.1 (B.2.2.2.2.1 _ hw1122) dX5_checksum_16 ?_
      refine lv_lload_n hx hb dX5_checksum_19 rfl (lv_at hl 1 rfl) ?_
      refine lv_lmul hx hb dX5_checksum_20 ?_
      refine lv_aload_n hx hb dX5_checksum_21 rfl (lv_at hl 0 rfl) ?_
      refine g_get B h 44 (by decide) (C := RX5) (T := TX5) (N := 21) (M_row _) rfl hin_X5 2 (by decide) hw831 rfl rfl dX5_checksum_22 ?_
      refine lv_iload_n hx hb dX5_checksum_25 rfl (lv_at hl 2 rfl) ?_
      obtain ⟨c3, hf⟩ := chk_some hf
      refine g_iald B h 47 (by decide) (n := 3) (fun _ => rfl) (inb_in c3) dX5_checksum_26 ?_
      refine lv_i2l (v := ((σ 47 (v3).toNatClampNeg).toInt64)) hx hb dX5_checksum_27 rfl ?_
      refine lv_ladd hx hb dX5_checksum_28 ?_
      refine lv_lstore_n (lv' := [(1, .long (((31 : Int64) * v1) + ((σ 47 (v3).toNatClampNeg).toInt64))), (0, .ref (ad 44)), (3, .int v3)]) hx hb dX5_checksum_29 rfl hl (by decide) rfl (fun ls hl => ?_)
      refine lv_iconst (v := (0 : Int32)) hx hb dX5_checksum_30 (by decide) ?_
      refine lv_istore (lv' := [(4, .int (0 : Int32)), (1, .long (((31 : Int64) * v1) + ((σ 47 (v3).toNatClampNeg).toInt64))), (0, .ref (ad 44)), (3, .int v3)]) hx hb dX5_checksum_31 hl (by decide) rfl (fun ls hl => ?_)
      exact k_X5_checksum_33 B hr ih _ _ _ _ _ hf _ _ _ h (lv_sub hl [2, 1, 3, 0] rfl)
set_option maxHeartbeats 4000000 in
set_option maxRecDepth 100000 in
theorem k_X5_checksum_0 {p : Program} {l : Launch} {e : Env} {s : State} {m : MethodId} {args : Array Value} {below : List Frame} {meth : Method} {c : Code} {D : va_G} {cy : Nat → ClassId} {ad : Nat → Nat} {X : sX} {r : Int64} {σ' : sM} (B : sB p l s m meth c args cX5_checksum 6 RX5 D cy ad) (hr : meth.sig.returnType = (some .long)) (σ : sM) (hf : f_X5_checksum σ = some (r, σ')) : sGo p l e { frames := 3, cells := 0, slots := 0, locals := 68 } s m args below meth c D cy ad X 6 (sQ below args s 0 0 D cy ad (.inr (some (.long r))) X σ') σ 0 [(0, .ref (ad 44))] [] := by
  replace hf : (stl (va_up σ 44 (upd (σ 44) 20 (0 : Int32))) (fun σ1 => b_X5_checksum_11 FU (7 : Int64) (0 : Int32) σ1)) = some (r, σ') := hf
  intro H locs ls h hl
  have hx := B.1
  have hb := B.2.1
  refine lv_aload_n hx hb dX5_checksum_0 rfl (lv_at hl 0 rfl) ?_
  refine lv_iconst (v := (0 : Int32)) hx hb dX5_checksum_1 (by decide) ?_
  refine g_put B h 44 (by decide) (C := RX5) (T := TX5) (N := 21) (M_row _) rfl hin_X5 tyX5 tyX5_ok nmX5 20 (by decide) hw849 rfl rfl rfl rfl (upd (σ 44) 20 (0 : Int32)) (M_put20 _ _) (Nat.le_of_ble_eq_true rfl) dX5_checksum_2 (fun H locs h => ?_)
  obtain ⟨σ1, e1, hf⟩ := stl_some hf
  rw [← e1] at h
  refine lv_ldc2 (own := RX5) (v := (7 : Int64)) hx hb B.2.2.2.1 (B.2.2.2.2.1 _ hw1121) dX5_checksum_5 ?_
  refine lv_lstore_n (lv' := [(1, .long (7 : Int64)), (0, .ref (ad 44))]) hx hb dX5_checksum_8 rfl hl (by decide) rfl (fun ls hl => ?_)
  refine lv_iconst (v := (0 : Int32)) hx hb dX5_checksum_9 (by decide) ?_
  refine lv_istore_n (lv' := [(3, .int (0 : Int32)), (1, .long (7 : Int64)), (0, .ref (ad 44))]) hx hb dX5_checksum_10 rfl hl (by decide) rfl (fun ls hl => ?_)
  exact k_X5_checksum_11 B hr  _ _ _ _ hf _ _ _ h (lv_sub hl [2, 1, 0] rfl)
set_option maxRecDepth 100000 in
theorem ok_X5_checksum {l : Launch} (hl0 : l.stackTraces = false) {D : va_G} {cy : Nat → ClassId} {ad : Nat → Nat} (hap : sAp ad) (X : sX) (σ : sM) {r : Int64} {σ' : sM} (hf : f_X5_checksum σ = some (r, σ')) : sMet l yX5_checksum (sWs yX5_checksum cX5_checksum 6 (some .long)) 3 68 0 0 D cy ad X σ [.ref (ad 44)] (.inr (some (.long r))) X σ' := by
  refine sMet_of (by decide +kernel) (Nat.le_of_ble_eq_true rfl) hap hl0 ?_
  intro p e s m args below meth c ls B hr htab hl h
  exact k_X5_checksum_0 B hr  _  hf _ _ _ h hl
set_option maxHeartbeats 4000000 in
set_option maxRecDepth 100000 in
theorem k_X5_in_0 {p : Program} {l : Launch} {e : Env} {s : State} {m : MethodId} {args : Array Value} {below : List Frame} {meth : Method} {c : Code} {D : va_G} {cy : Nat → ClassId} {ad : Nat → Nat} {X : sX} {r : Int32} (B : sB p l s m meth c args cX5_in 3 RX5 D cy ad) (hr : meth.sig.returnType = (some .boolean)) (v0 : Int32) (v1 : Int32) (v2 : Int32) (σ : sM) (hf : f_X5_in v0 v1 v2 σ = some r) : sGo p l e { frames := 0, cells := 0, slots := 0, locals := 0 } s m args below meth c D cy ad X 3 (sQ below args s 0 0 D cy ad (.inr (some (.int r))) X σ) σ 0 [(0, .int v0), (1, .int v1), (2, .int v2)] [] := by
  replace hf : (if v0 < v1 then (some (0 : Int32)) else (if v2 < v0 then (some (0 : Int32)) else (some (1 : Int32)))) = some r := hf
  intro H locs ls h hl
  have hx := B.1
  have hb := B.2.1
  refine lv_iload_n hx hb dX5_in_0 rfl (lv_at hl 0 rfl) ?_
  refine lv_iload_n hx hb dX5_in_1 rfl (lv_at hl 1 rfl) ?_
  refine lv_icmp_lt (tgt := 14) hx hb dX5_in_2 (by decide) (fun c1 => ?_) (fun c1 => ?_)
  · rw [if_pos c1] at hf
    refine lv_iconst (v := (0 : Int32)) hx hb dX5_in_14 (by decide) ?_
    cases hf
    exact sE_z B hr h rfl dX5_in_15
  · rw [if_neg c1] at hf
    refine lv_iload_n hx hb dX5_in_5 rfl (lv_at hl 0 rfl) ?_
    refine lv_iload_n hx hb dX5_in_6 rfl (lv_at hl 2 rfl) ?_
    refine lv_icmp_gt (tgt := 14) hx hb dX5_in_7 (by decide) (fun c2 => ?_) (fun c2 => ?_)
    · rw [if_pos c2] at hf
      refine lv_iconst (v := (0 : Int32)) hx hb dX5_in_14 (by decide) ?_
      cases hf
      exact sE_z B hr h rfl dX5_in_15
    · rw [if_neg c2] at hf
      refine lv_iconst (v := (1 : Int32)) hx hb dX5_in_10 (by decide) ?_
      refine lv_goto (tgt := 15) hx hb dX5_in_11 (by decide) ?_
      cases hf
      exact sE_z B hr h rfl dX5_in_15
set_option maxRecDepth 100000 in
theorem ok_X5_in {l : Launch} (hl0 : l.stackTraces = false) {D : va_G} {cy : Nat → ClassId} {ad : Nat → Nat} (hap : sAp ad) (X : sX) (σ : sM) (v0 : Int32) (v1 : Int32) (v2 : Int32) {r : Int32} (hf : f_X5_in v0 v1 v2 σ = some r) : sMet l yX5_in (sWs yX5_in cX5_in 3 (some .boolean)) 0 0 0 0 D cy ad X σ [.int v0, .int v1, .int v2] (.inr (some (.int r))) X σ := by
  refine sMet_of (by decide +kernel) (Nat.le_of_ble_eq_true rfl) hap hl0 ?_
  intro p e s m args below meth c ls B hr htab hl h
  exact k_X5_in_0 B hr _ _ _ _  hf _ _ _ h hl
set_option maxHeartbeats 4000000 in
set_option maxRecDepth 100000 in
theorem k_X5_isMap_0 {p : Program} {l : Launch} {e : Env} {s : State} {m : MethodId} {args : Array Value} {below : List Frame} {meth : Method} {c : Code} {D : va_G} {cy : Nat → ClassId} {ad : Nat → Nat} {X : sX} {r : Int32} (B : sB p l s m meth c args cX5_isMap 1 RX5 D cy ad) (hr : meth.sig.returnType = (some .boolean)) (v0 : Int32) (σ : sM) (hf : f_X5_isMap v0 σ = some r) : sGo p l e { frames := 1, cells := 0, slots := 0, locals := 22 } s m args below meth c D cy ad X 1 (sQ below args s 0 0 D cy ad (.inr (some (.int r))) X σ) σ 0 [(0, .int v0)] [] := by
  replace hf : (rthn (f_X5_in v0 (0 : Int32) (2 : Int32) σ) (fun vr1 => chk (isb vr1) (some vr1))) = some r := hf
  intro H locs ls h hl
  have hx := B.1
  have hb := B.2.1
  refine lv_iload_n hx hb dX5_isMap_0 rfl (lv_at hl 0 rfl) ?_
  refine lv_iconst (v := (0 : Int32)) hx hb dX5_isMap_1 (by decide) ?_
  refine lv_iconst (v := (2 : Int32)) hx hb dX5_isMap_2 (by decide) ?_
  obtain ⟨vr1, hq1, hf⟩ := rthn_some hf
  refine sRetC1 (g_runS B h (ok_X5_in B.2.2.2.2.2.2.2.2 B.2.2.2.2.2.2.1 _ _ v0 (0 : Int32) (2 : Int32) hq1) cw_X5_64 ⟨Nat.le_of_ble_eq_true rfl, Nat.le_of_ble_eq_true rfl⟩ rfl hl.1.symm rfl (Nat.le_of_ble_eq_true rfl) dX5_isMap_3 ⟨Nat.zero_le _, Nat.zero_le _⟩) h (fun H locs h => ?_)
  obtain ⟨c2, hf⟩ := chk_some hf
  cases hf
  exact sE_z B hr h (isb_n c2) dX5_isMap_6
set_option maxRecDepth 100000 in
theorem ok_X5_isMap {l : Launch} (hl0 : l.stackTraces = false) {D : va_G} {cy : Nat → ClassId} {ad : Nat → Nat} (hap : sAp ad) (X : sX) (σ : sM) (v0 : Int32) {r : Int32} (hf : f_X5_isMap v0 σ = some r) : sMet l yX5_isMap (sWs yX5_isMap cX5_isMap 1 (some .boolean)) 1 22 0 0 D cy ad X σ [.int v0] (.inr (some (.int r))) X σ := by
  refine sMet_of (by decide +kernel) (Nat.le_of_ble_eq_true rfl) hap hl0 ?_
  intro p e s m args below meth c ls B hr htab hl h
  exact k_X5_isMap_0 B hr _ _  hf _ _ _ h hl
set_option maxHeartbeats 4000000 in
set_option maxRecDepth 100000 in
theorem k_X5_placeOf_33 {p : Program} {l : Launch} {e : Env} {s : State} {m : MethodId} {args : Array Value} {below : List Frame} {meth : Method} {c : Code} {D : va_G} {cy : Nat → ClassId} {ad : Nat → Nat} {X : sX} {r : Int32} (B : sB p l s m meth c args cX5_placeOf 4 RX5 D cy ad) (hr : meth.sig.returnType = (some .int)) (v1 : Int32) (v2 : Int32) (v3 : Int32) (σ : sM) (hf : b_X5_placeOf_33 v1 v2 v3 σ = some r) : sGo p l e { frames := 0, cells := 0, slots := 0, locals := 0 } s m args below meth c D cy ad X 4 (sQ below args s 0 0 D cy ad (.inr (some (.int r))) X σ) σ 33 [(0, .ref (ad 44)), (1, .int v1), (2, .int v2), (3, .int v3)] [] := by
  replace hf : (chk (inb v1 3) (if (σ 47 (v1).toNatClampNeg) ≤ v3 then (some ((-1 : Int32) - v3)) else (chk (inb (((60 : Int32) * v1) + v3) 180) (if (σ 45 ((((60 : Int32) * v1) + v3)).toNatClampNeg) = v2 then (some v3) else (some ((-1 : Int32) - v3)))))) = some r := hf
  intro H locs ls h hl
  have hx := B.1
  have hb := B.2.1
  refine lv_iload_n hx hb dX5_placeOf_33 rfl (lv_at hl 3 rfl) ?_
  refine lv_aload_n hx hb dX5_placeOf_34 rfl (lv_at hl 0 rfl) ?_
  refine g_get B h 44 (by decide) (C := RX5) (T := TX5) (N := 21) (M_row _) rfl hin_X5 2 (by decide) hw831 rfl rfl dX5_placeOf_35 ?_
  refine lv_iload_n hx hb dX5_placeOf_38 rfl (lv_at hl 1 rfl) ?_
  obtain ⟨c5, hf⟩ := chk_some hf
  refine g_iald B h 47 (by decide) (n := 3) (fun _ => rfl) (inb_in c5) dX5_placeOf_39 ?_
  refine lv_icmp_ge (tgt := 62) hx hb dX5_placeOf_40 (by decide) (fun c6 => ?_) (fun c6 => ?_)
  · rw [if_pos c6] at hf
    refine lv_iconst (v := (-1 : Int32)) hx hb dX5_placeOf_62 (by decide) ?_
    refine lv_iload_n hx hb dX5_placeOf_63 rfl (lv_at hl 3 rfl) ?_
    refine lv_isub hx hb dX5_placeOf_64 ?_
    cases hf
    exact sE_i B hr h dX5_placeOf_65
  · rw [if_neg c6] at hf
    refine lv_aload_n hx hb dX5_placeOf_43 rfl (lv_at hl 0 rfl) ?_
    refine g_get B h 44 (by decide) (C := RX5) (T := TX5) (N := 21) (M_row _) rfl hin_X5 0 (by decide) hw829 rfl rfl dX5_placeOf_44 ?_
    refine lv_bipush (v := (60 : Int32)) hx hb dX5_placeOf_47 (by decide) ?_
    refine lv_iload_n hx hb dX5_placeOf_49 rfl (lv_at hl 1 rfl) ?_
    refine lv_imul hx hb dX5_placeOf_50 ?_
    refine lv_iload_n hx hb dX5_placeOf_51 rfl (lv_at hl 3 rfl) ?_
    refine lv_iadd hx hb dX5_placeOf_52 ?_
    obtain ⟨c7, hf⟩ := chk_some hf
    refine g_iald B h 45 (by decide) (n := 180) (fun _ => rfl) (inb_in c7) dX5_placeOf_53 ?_
    refine lv_iload_n hx hb dX5_placeOf_54 rfl (lv_at hl 2 rfl) ?_
    refine lv_icmp_ne (tgt := 62) hx hb dX5_placeOf_55 (by decide) (fun c8 => ?_) (fun c8 => ?_)
    · rw [if_neg c8] at hf
      refine lv_iconst (v := (-1 : Int32)) hx hb dX5_placeOf_62 (by decide) ?_
      refine lv_iload_n hx hb dX5_placeOf_63 rfl (lv_at hl 3 rfl) ?_
      refine lv_isub hx hb dX5_placeOf_64 ?_
      cases hf
      exact sE_i B hr h dX5_placeOf_65
    · rw [if_pos c8] at hf
      refine lv_iload_n hx hb dX5_placeOf_58 rfl (lv_at hl 3 rfl) ?_
      refine lv_goto (tgt := 65) hx hb dX5_placeOf_59 (by decide) ?_
      cases hf
      exact sE_i B hr h dX5_placeOf_65
set_option maxHeartbeats 4000000 in
set_option maxRecDepth 100000 in
theorem k_X5_placeOf_2 {p : Program} {l : Launch} {e : Env} {s : State} {m : MethodId} {args : Array Value} {below : List Frame} {meth : Method} {c : Code} {D : va_G} {cy : Nat → ClassId} {ad : Nat → Nat} {X : sX} {r : Int32} (B : sB p l s m meth c args cX5_placeOf 4 RX5 D cy ad) (hr : meth.sig.returnType = (some .int)) : ∀ (n : Nat) (v1 : Int32) (v2 : Int32) (v3 : Int32) (σ : sM), b_X5_placeOf_2 n v1 v2 v3 σ = some r → sGo p l e { frames := 0, cells := 0, slots := 0, locals := 0 } s m args below meth c D cy ad X 4 (sQ below args s 0 0 D cy ad (.inr (some (.int r))) X σ) σ 2 [(0, .ref (ad 44)), (1, .int v1), (2, .int v2), (3, .int v3)] [] := by
  intro n
  induction n with
  | zero =>
    intro v1 v2 v3 σ hf
    exact nomatch (show none = some r from hf)
  | succ n ih =>
    intro v1 v2 v3 σ hf
    replace hf : (chk (inb v1 3) (if (σ 47 (v1).toNatClampNeg) ≤ v3 then (b_X5_placeOf_33 v1 v2 v3 σ) else (chk (inb (((60 : Int32) * v1) + v3) 180) (if v2 ≤ (σ 45 ((((60 : Int32) * v1) + v3)).toNatClampNeg) then (b_X5_placeOf_33 v1 v2 v3 σ) else (b_X5_placeOf_2 n v1 v2 (v3 + 1) σ))))) = some r := hf
    intro H locs ls h hl
    have hx := B.1
    have hb := B.2.1
    refine lv_iload_n hx hb dX5_placeOf_2 rfl (lv_at hl 3 rfl) ?_
    refine lv_aload_n hx hb dX5_placeOf_3 rfl (lv_at hl 0 rfl) ?_
    refine g_get B h 44 (by decide) (C := RX5) (T := TX5) (N := 21) (M_row _) rfl hin_X5 2 (by decide) hw831 rfl rfl dX5_placeOf_4 ?_
    refine lv_iload_n hx hb dX5_placeOf_7 rfl (lv_at hl 1 rfl) ?_
    obtain ⟨c1, hf⟩ := chk_some hf
    refine g_iald B h 47 (by decide) (n := 3) (fun _ => rfl) (inb_in c1) dX5_placeOf_8 ?_
    refine lv_icmp_ge (tgt := 33) hx hb dX5_placeOf_9 (by decide) (fun c2 => ?_) (fun c2 => ?_)
    · rw [if_pos c2] at hf
      exact k_X5_placeOf_33 B hr  _ _ _ _ hf _ _ _ h (lv_sub hl [0, 1, 2, 3] rfl)
    · rw [if_neg c2] at hf
      refine lv_aload_n hx hb dX5_placeOf_12 rfl (lv_at hl 0 rfl) ?_
      refine g_get B h 44 (by decide) (C := RX5) (T := TX5) (N := 21) (M_row _) rfl hin_X5 0 (by decide) hw829 rfl rfl dX5_placeOf_13 ?_
      refine lv_bipush (v := (60 : Int32)) hx hb dX5_placeOf_16 (by decide) ?_
      refine lv_iload_n hx hb dX5_placeOf_18 rfl (lv_at hl 1 rfl) ?_
      refine lv_imul hx hb dX5_placeOf_19 ?_
      refine lv_iload_n hx hb dX5_placeOf_20 rfl (lv_at hl 3 rfl) ?_
      refine lv_iadd hx hb dX5_placeOf_21 ?_
      obtain ⟨c3, hf⟩ := chk_some hf
      refine g_iald B h 45 (by decide) (n := 180) (fun _ => rfl) (inb_in c3) dX5_placeOf_22 ?_
      refine lv_iload_n hx hb dX5_placeOf_23 rfl (lv_at hl 2 rfl) ?_
      refine lv_icmp_ge (tgt := 33) hx hb dX5_placeOf_24 (by decide) (fun c4 => ?_) (fun c4 => ?_)
      · rw [if_pos c4] at hf
        exact k_X5_placeOf_33 B hr  _ _ _ _ hf _ _ _ h (lv_sub hl [0, 1, 2, 3] rfl)
      · rw [if_neg c4] at hf
        refine lv_iinc (v := (v3 + 1)) (lv' := [(3, .int (v3 + 1)), (0, .ref (ad 44)), (1, .int v1), (2, .int v2)]) hx hb dX5_placeOf_27 hl (k := 3) rfl rfl (by decide) rfl (fun ls hl => ?_)
        refine lv_goto (tgt := 2) hx hb dX5_placeOf_30 (by decide) ?_
        exact ih _ _ _ _ hf _ _ _ h (lv_sub hl [1, 2, 3, 0] rfl)
set_option maxHeartbeats 4000000 in
set_option maxRecDepth 100000 in
theorem k_X5_placeOf_0 {p : Program} {l : Launch} {e : Env} {s : State} {m : MethodId} {args : Array Value} {below : List Frame} {meth : Method} {c : Code} {D : va_G} {cy : Nat → ClassId} {ad : Nat → Nat} {X : sX} {r : Int32} (B : sB p l s m meth c args cX5_placeOf 4 RX5 D cy ad) (hr : meth.sig.returnType = (some .int)) (v1 : Int32) (v2 : Int32) (σ : sM) (hf : f_X5_placeOf v1 v2 σ = some r) : sGo p l e { frames := 0, cells := 0, slots := 0, locals := 0 } s m args below meth c D cy ad X 4 (sQ below args s 0 0 D cy ad (.inr (some (.int r))) X σ) σ 0 [(0, .ref (ad 44)), (1, .int v1), (2, .int v2)] [] := by
  replace hf : (b_X5_placeOf_2 FU v1 v2 (0 : Int32) σ) = some r := hf
  intro H locs ls h hl
  have hx := B.1
  have hb := B.2.1
  refine lv_iconst (v := (0 : Int32)) hx hb dX5_placeOf_0 (by decide) ?_
  refine lv_istore_n (lv' := [(3, .int (0 : Int32)), (0, .ref (ad 44)), (1, .int v1), (2, .int v2)]) hx hb dX5_placeOf_1 rfl hl (by decide) rfl (fun ls hl => ?_)
  exact k_X5_placeOf_2 B hr  _ _ _ _ _ hf _ _ _ h (lv_sub hl [1, 2, 3, 0] rfl)
set_option maxRecDepth 100000 in
theorem ok_X5_placeOf {l : Launch} (hl0 : l.stackTraces = false) {D : va_G} {cy : Nat → ClassId} {ad : Nat → Nat} (hap : sAp ad) (X : sX) (σ : sM) (v1 : Int32) (v2 : Int32) {r : Int32} (hf : f_X5_placeOf v1 v2 σ = some r) : sMet l yX5_placeOf (sWs yX5_placeOf cX5_placeOf 4 (some .int)) 0 0 0 0 D cy ad X σ [.ref (ad 44), .int v1, .int v2] (.inr (some (.int r))) X σ := by
  refine sMet_of (by decide +kernel) (Nat.le_of_ble_eq_true rfl) hap hl0 ?_
  intro p e s m args below meth c ls B hr htab hl h
  exact k_X5_placeOf_0 B hr _ _ _  hf _ _ _ h hl
set_option maxHeartbeats 4000000 in
set_option maxRecDepth 100000 in
theorem k_X5_has_0 {p : Program} {l : Launch} {e : Env} {s : State} {m : MethodId} {args : Array Value} {below : List Frame} {meth : Method} {c : Code} {D : va_G} {cy : Nat → ClassId} {ad : Nat → Nat} {X : sX} {r : Int32} (B : sB p l s m meth c args cX5_has 3 RX5 D cy ad) (hr : meth.sig.returnType = (some .boolean)) (v1 : Int32) (v2 : Int32) (σ : sM) (hf : f_X5_has v1 v2 σ = some r) : sGo p l e { frames := 1, cells := 0, slots := 0, locals := 23 } s m args below meth c D cy ad X 3 (sQ below args s 0 0 D cy ad (.inr (some (.int r))) X σ) σ 0 [(0, .ref (ad 44)), (1, .int v1), (2, .int v2)] [] := by
  replace hf : (rthn (f_X5_placeOf v1 v2 σ) (fun vr1 => if vr1 < 0 then (some (0 : Int32)) else (some (1 : Int32)))) = some r := hf
  intro H locs ls h hl
  have hx := B.1
  have hb := B.2.1
  refine lv_aload_n hx hb dX5_has_0 rfl (lv_at hl 0 rfl) ?_
  refine lv_iload_n hx hb dX5_has_1 rfl (lv_at hl 1 rfl) ?_
  refine lv_iload_n hx hb dX5_has_2 rfl (lv_at hl 2 rfl) ?_
  obtain ⟨vr1, hq1, hf⟩ := rthn_some hf
  refine sRetC1 (g_runV (k := 44) (T := TX5) (N := 21) B h (ok_X5_placeOf B.2.2.2.2.2.2.2.2 B.2.2.2.2.2.2.1 _ _ v1 v2 hq1) cw_X5_68 ⟨Nat.le_of_ble_eq_true rfl, Nat.le_of_ble_eq_true rfl⟩ (by decide) (M_row _) rfl rfl hl.1.symm rfl (Nat.le_of_ble_eq_true rfl) dX5_has_3 ⟨Nat.zero_le _, Nat.zero_le _⟩) h (fun H locs h => ?_)
  refine lv_if_lt (tgt := 13) hx hb dX5_has_6 (by decide) (fun c2 => ?_) (fun c2 => ?_)
  · rw [if_pos c2] at hf
    refine lv_iconst (v := (0 : Int32)) hx hb dX5_has_13 (by decide) ?_
    cases hf
    exact sE_z B hr h rfl dX5_has_14
  · rw [if_neg c2] at hf
    refine lv_iconst (v := (1 : Int32)) hx hb dX5_has_9 (by decide) ?_
    refine lv_goto (tgt := 14) hx hb dX5_has_10 (by decide) ?_
    cases hf
    exact sE_z B hr h rfl dX5_has_14
set_option maxRecDepth 100000 in
theorem ok_X5_has {l : Launch} (hl0 : l.stackTraces = false) {D : va_G} {cy : Nat → ClassId} {ad : Nat → Nat} (hap : sAp ad) (X : sX) (σ : sM) (v1 : Int32) (v2 : Int32) {r : Int32} (hf : f_X5_has v1 v2 σ = some r) : sMet l yX5_has (sWs yX5_has cX5_has 3 (some .boolean)) 1 23 0 0 D cy ad X σ [.ref (ad 44), .int v1, .int v2] (.inr (some (.int r))) X σ := by
  refine sMet_of (by decide +kernel) (Nat.le_of_ble_eq_true rfl) hap hl0 ?_
  intro p e s m args below meth c ls B hr htab hl h
  exact k_X5_has_0 B hr _ _ _  hf _ _ _ h hl
set_option maxHeartbeats 4000000 in
set_option maxRecDepth 100000 in
theorem k_X5_manyTogether_10 {p : Program} {l : Launch} {e : Env} {s : State} {m : MethodId} {args : Array Value} {below : List Frame} {meth : Method} {c : Code} {D : va_G} {cy : Nat → ClassId} {ad : Nat → Nat} {X : sX} {r : Int32} (B : sB p l s m meth c args cX5_manyTogether 5 RX5 D cy ad) (hr : meth.sig.returnType = (some .int)) : ∀ (n : Nat) (v1 : Int32) (v2 : Int32) (v3 : Int32) (v4 : Int32) (σ : sM), b_X5_manyTogether_10 n v1 v2 v3 v4 σ = some r → sGo p l e { frames := 2, cells := 0, slots := 0, locals := 45 } s m args below meth c D cy ad X 5 (sQ below args s 0 0 D cy ad (.inr (some (.int r))) X σ) σ 10 [(0, .ref (ad 44)), (1, .int v1), (2, .int v2), (3, .int v3), (4, .int v4)] [] := by
  intro n
  induction n with
  | zero =>
    intro v1 v2 v3 v4 σ hf
    exact nomatch (show none = some r from hf)
  | succ n ih =>
    intro v1 v2 v3 v4 σ hf
    replace hf : (chk (inb v1 3) (if (σ 47 (v1).toNatClampNeg) ≤ v4 then (some v3) else (chk (inb (((60 : Int32) * v1) + v4) 180) (rthn (f_X5_has v2 (σ 45 ((((60 : Int32) * v1) + v4)).toNatClampNeg) σ) (fun vr5 => if vr5 = 0 then (b_X5_manyTogether_10 n v1 v2 (v3 + (1 : Int32)) (v4 + 1) σ) else (b_X5_manyTogether_10 n v1 v2 (v3 + (0 : Int32)) (v4 + 1) σ)))))) = some r := hf
    intro H locs ls h hl
    have hx := B.1
    have hb := B.2.1
    refine lv_iload hx hb dX5_manyTogether_10 (lv_at hl 4 rfl) ?_
    refine lv_aload_n hx hb dX5_manyTogether_12 rfl (lv_at hl 0 rfl) ?_
    refine g_get B h 44 (by decide) (C := RX5) (T := TX5) (N := 21) (M_row _) rfl hin_X5 2 (by decide) hw831 rfl rfl dX5_manyTogether_13 ?_
    refine lv_iload_n hx hb dX5_manyTogether_16 rfl (lv_at hl 1 rfl) ?_
    obtain ⟨c2, hf⟩ := chk_some hf
    refine g_iald B h 47 (by decide) (n := 3) (fun _ => rfl) (inb_in c2) dX5_manyTogether_17 ?_
    refine lv_icmp_ge (tgt := 55) hx hb dX5_manyTogether_18 (by decide) (fun c3 => ?_) (fun c3 => ?_)
    · rw [if_pos c3] at hf
      refine lv_iload_n hx hb dX5_manyTogether_55 rfl (lv_at hl 3 rfl) ?_
      cases hf
      exact sE_i B hr h dX5_manyTogether_56
    · rw [if_neg c3] at hf
      refine lv_iload_n hx hb dX5_manyTogether_21 rfl (lv_at hl 3 rfl) ?_
      refine lv_aload_n hx hb dX5_manyTogether_22 rfl (lv_at hl 0 rfl) ?_
      refine lv_iload_n hx hb dX5_manyTogether_23 rfl (lv_at hl 2 rfl) ?_
      refine lv_aload_n hx hb dX5_manyTogether_24 rfl (lv_at hl 0 rfl) ?_
      refine g_get B h 44 (by decide) (C := RX5) (T := TX5) (N := 21) (M_row _) rfl hin_X5 0 (by decide) hw829 rfl rfl dX5_manyTogether_25 ?_
      refine lv_bipush (v := (60 : Int32)) hx hb dX5_manyTogether_28 (by decide) ?_
      refine lv_iload_n hx hb dX5_manyTogether_30 rfl (lv_at hl 1 rfl) ?_
      refine lv_imul hx hb dX5_manyTogether_31 ?_
      refine lv_iload hx hb dX5_manyTogether_32 (lv_at hl 4 rfl) ?_
      refine lv_iadd hx hb dX5_manyTogether_34 ?_
      obtain ⟨c4, hf⟩ := chk_some hf
      refine g_iald B h 45 (by decide) (n := 180) (fun _ => rfl) (inb_in c4) dX5_manyTogether_35 ?_
      obtain ⟨vr5, hq5, hf⟩ := rthn_some hf
      refine sRetC1 (g_runV (k := 44) (T := TX5) (N := 21) B h (ok_X5_has B.2.2.2.2.2.2.2.2 B.2.2.2.2.2.2.1 _ _ v2 (σ 45 ((((60 : Int32) * v1) + v4)).toNatClampNeg) hq5) cw_X5_91 ⟨Nat.le_of_ble_eq_true rfl, Nat.le_of_ble_eq_true rfl⟩ (by decide) (M_row _) rfl rfl hl.1.symm rfl (Nat.le_of_ble_eq_true rfl) dX5_manyTogether_36 ⟨Nat.zero_le _, Nat.zero_le _⟩) h (fun H locs h => ?_)
      refine lv_if_eq (tgt := 46) hx hb dX5_manyTogether_39 (by decide) (fun c6 => ?_) (fun c6 => ?_)
      · rw [if_pos c6] at hf
        refine lv_iconst (v := (1 : Int32)) hx hb dX5_manyTogether_46 (by decide) ?_
        refine lv_iadd hx hb dX5_manyTogether_47 ?_
        refine lv_istore_n (lv' := [(3, .int (v3 + (1 : Int32))), (0, .ref (ad 44)), (1, .int v1), (2, .int v2), (4, .int v4)]) hx hb dX5_manyTogether_48 rfl hl (by decide) rfl (fun ls hl => ?_)
        refine lv_iinc (v := (v4 + 1)) (lv' := [(4, .int (v4 + 1)), (3, .int (v3 + (1 : Int32))), (0, .ref (ad 44)), (1, .int v1), (2, .int v2)]) hx hb dX5_manyTogether_49 hl (k := 4) rfl rfl (by decide) rfl (fun ls hl => ?_)
        refine lv_goto (tgt := 10) hx hb dX5_manyTogether_52 (by decide) ?_
        exact ih _ _ _ _ _ hf _ _ _ h (lv_sub hl [2, 3, 4, 1, 0] rfl)
      · rw [if_neg c6] at hf
        refine lv_iconst (v := (0 : Int32)) hx hb dX5_manyTogether_42 (by decide) ?_
        refine lv_goto (tgt := 47) hx hb dX5_manyTogether_43 (by decide) ?_
        refine lv_iadd hx hb dX5_manyTogether_47 ?_
        refine lv_istore_n (lv' := [(3, .int (v3 + (0 : Int32))), (0, .ref (ad 44)), (1, .int v1), (2, .int v2), (4, .int v4)]) hx hb dX5_manyTogether_48 rfl hl (by decide) rfl (fun ls hl => ?_)
        refine lv_iinc (v := (v4 + 1)) (lv' := [(4, .int (v4 + 1)), (3, .int (v3 + (0 : Int32))), (0, .ref (ad 44)), (1, .int v1), (2, .int v2)]) hx hb dX5_manyTogether_49 hl (k := 4) rfl rfl (by decide) rfl (fun ls hl => ?_)
        refine lv_goto (tgt := 10) hx hb dX5_manyTogether_52 (by decide) ?_
        exact ih _ _ _ _ _ hf _ _ _ h (lv_sub hl [2, 3, 4, 1, 0] rfl)
set_option maxHeartbeats 4000000 in
set_option maxRecDepth 100000 in
theorem k_X5_manyTogether_0 {p : Program} {l : Launch} {e : Env} {s : State} {m : MethodId} {args : Array Value} {below : List Frame} {meth : Method} {c : Code} {D : va_G} {cy : Nat → ClassId} {ad : Nat → Nat} {X : sX} {r : Int32} (B : sB p l s m meth c args cX5_manyTogether 5 RX5 D cy ad) (hr : meth.sig.returnType = (some .int)) (v1 : Int32) (v2 : Int32) (σ : sM) (hf : f_X5_manyTogether v1 v2 σ = some r) : sGo p l e { frames := 2, cells := 0, slots := 0, locals := 45 } s m args below meth c D cy ad X 5 (sQ below args s 0 0 D cy ad (.inr (some (.int r))) X σ) σ 0 [(0, .ref (ad 44)), (1, .int v1), (2, .int v2)] [] := by
  replace hf : (chk (inb v2 3) (b_X5_manyTogether_10 FU v1 v2 (σ 47 (v2).toNatClampNeg) (0 : Int32) σ)) = some r := hf
  intro H locs ls h hl
  have hx := B.1
  have hb := B.2.1
  refine lv_aload_n hx hb dX5_manyTogether_0 rfl (lv_at hl 0 rfl) ?_
  refine g_get B h 44 (by decide) (C := RX5) (T := TX5) (N := 21) (M_row _) rfl hin_X5 2 (by decide) hw831 rfl rfl dX5_manyTogether_1 ?_
  refine lv_iload_n hx hb dX5_manyTogether_4 rfl (lv_at hl 2 rfl) ?_
  obtain ⟨c1, hf⟩ := chk_some hf
  refine g_iald B h 47 (by decide) (n := 3) (fun _ => rfl) (inb_in c1) dX5_manyTogether_5 ?_
  refine lv_istore_n (lv' := [(3, .int (σ 47 (v2).toNatClampNeg)), (0, .ref (ad 44)), (1, .int v1), (2, .int v2)]) hx hb dX5_manyTogether_6 rfl hl (by decide) rfl (fun ls hl => ?_)
  refine lv_iconst (v := (0 : Int32)) hx hb dX5_manyTogether_7 (by decide) ?_
  refine lv_istore (lv' := [(4, .int (0 : Int32)), (3, .int (σ 47 (v2).toNatClampNeg)), (0, .ref (ad 44)), (1, .int v1), (2, .int v2)]) hx hb dX5_manyTogether_8 hl (by decide) rfl (fun ls hl => ?_)
  exact k_X5_manyTogether_10 B hr  _ _ _ _ _ _ hf _ _ _ h (lv_sub hl [2, 3, 4, 1, 0] rfl)
set_option maxRecDepth 100000 in
theorem ok_X5_manyTogether {l : Launch} (hl0 : l.stackTraces = false) {D : va_G} {cy : Nat → ClassId} {ad : Nat → Nat} (hap : sAp ad) (X : sX) (σ : sM) (v1 : Int32) (v2 : Int32) {r : Int32} (hf : f_X5_manyTogether v1 v2 σ = some r) : sMet l yX5_manyTogether (sWs yX5_manyTogether cX5_manyTogether 5 (some .int)) 2 45 0 0 D cy ad X σ [.ref (ad 44), .int v1, .int v2] (.inr (some (.int r))) X σ := by
  refine sMet_of (by decide +kernel) (Nat.le_of_ble_eq_true rfl) hap hl0 ?_
  intro p e s m args below meth c ls B hr htab hl h
  exact k_X5_manyTogether_0 B hr _ _ _  hf _ _ _ h hl
set_option maxHeartbeats 4000000 in
set_option maxRecDepth 100000 in
theorem k_X5_refused_0 {p : Program} {l : Launch} {e : Env} {s : State} {m : MethodId} {args : Array Value} {below : List Frame} {meth : Method} {c : Code} {D : va_G} {cy : Nat → ClassId} {ad : Nat → Nat} {X : sX} {r : Int32} {σ' : sM} (B : sB p l s m meth c args cX5_refused 2 RX5 D cy ad) (hr : meth.sig.returnType = (some .boolean)) (v1 : Int32) (σ : sM) (hf : f_X5_refused v1 σ = some (r, σ')) : sGo p l e { frames := 0, cells := 0, slots := 0, locals := 0 } s m args below meth c D cy ad X 2 (sQ below args s 0 0 D cy ad (.inr (some (.int r))) X σ') σ 0 [(0, .ref (ad 44)), (1, .int v1)] [] := by
  replace hf : (stl (va_up σ 44 (upd (σ 44) 20 v1)) (fun σ1 => if v1 = 0 then (some ((0 : Int32), σ1)) else (some ((1 : Int32), σ1)))) = some (r, σ') := hf
  intro H locs ls h hl
  have hx := B.1
  have hb := B.2.1
  refine lv_aload_n hx hb dX5_refused_0 rfl (lv_at hl 0 rfl) ?_
  refine lv_iload_n hx hb dX5_refused_1 rfl (lv_at hl 1 rfl) ?_
  refine g_put B h 44 (by decide) (C := RX5) (T := TX5) (N := 21) (M_row _) rfl hin_X5 tyX5 tyX5_ok nmX5 20 (by decide) hw849 rfl rfl rfl rfl (upd (σ 44) 20 v1) (M_put20 _ _) (Nat.le_of_ble_eq_true rfl) dX5_refused_2 (fun H locs h => ?_)
  obtain ⟨σ1, e1, hf⟩ := stl_some hf
  rw [← e1] at h
  refine lv_iload_n hx hb dX5_refused_5 rfl (lv_at hl 1 rfl) ?_
  refine lv_if_eq (tgt := 13) hx hb dX5_refused_6 (by decide) (fun c2 => ?_) (fun c2 => ?_)
  · rw [if_pos c2] at hf
    refine lv_iconst (v := (0 : Int32)) hx hb dX5_refused_13 (by decide) ?_
    cases hf
    exact sE_z B hr h rfl dX5_refused_14
  · rw [if_neg c2] at hf
    refine lv_iconst (v := (1 : Int32)) hx hb dX5_refused_9 (by decide) ?_
    refine lv_goto (tgt := 14) hx hb dX5_refused_10 (by decide) ?_
    cases hf
    exact sE_z B hr h rfl dX5_refused_14
set_option maxRecDepth 100000 in
theorem ok_X5_refused {l : Launch} (hl0 : l.stackTraces = false) {D : va_G} {cy : Nat → ClassId} {ad : Nat → Nat} (hap : sAp ad) (X : sX) (σ : sM) (v1 : Int32) {r : Int32} {σ' : sM} (hf : f_X5_refused v1 σ = some (r, σ')) : sMet l yX5_refused (sWs yX5_refused cX5_refused 2 (some .boolean)) 0 0 0 0 D cy ad X σ [.ref (ad 44), .int v1] (.inr (some (.int r))) X σ' := by
  refine sMet_of (by decide +kernel) (Nat.le_of_ble_eq_true rfl) hap hl0 ?_
  intro p e s m args below meth c ls B hr htab hl h
  exact k_X5_refused_0 B hr _ _  hf _ _ _ h hl
set_option maxHeartbeats 4000000 in
set_option maxRecDepth 100000 in
theorem k_X5_puts_27 {p : Program} {l : Launch} {e : Env} {s : State} {m : MethodId} {args : Array Value} {below : List Frame} {meth : Method} {c : Code} {D : va_G} {cy : Nat → ClassId} {ad : Nat → Nat} {X : sX} {r : Unit} {σ' : sM} (B : sB p l s m meth c args cX5_puts 6 RX5 D cy ad) (hr : meth.sig.returnType = none) : ∀ (n : Nat) (v1 : Int32) (v2 : Int32) (v3 : Int32) (v4 : Int32) (v5 : Int32) (σ : sM), b_X5_puts_27 n v1 v2 v3 v4 v5 σ = some (r, σ') → sGo p l e { frames := 1, cells := 0, slots := 0, locals := 23 } s m args below meth c D cy ad X 6 (sQ below args s 0 0 D cy ad (.inr none) X σ') σ 27 [(0, .ref (ad 44)), (1, .int v1), (2, .int v2), (3, .int v3), (4, .int v4), (5, .int v5)] [] := by
  intro n
  induction n with
  | zero =>
    intro v1 v2 v3 v4 v5 σ hf
    exact nomatch (show none = some (r, σ') from hf)
  | succ n ih =>
    intro v1 v2 v3 v4 v5 σ hf
    replace hf : (if v5 ≤ v4 then (chk (inb v1 3) (chk (inb v1 3) (stl (va_up σ 47 (upd (σ 47) (v1).toNatClampNeg ((σ 47 (v1).toNatClampNeg) + (1 : Int32)))) (fun σ9 => chk (inb (((60 : Int32) * v1) + v4) 180) (stl (va_up σ9 45 (upd (σ9 45) ((((60 : Int32) * v1) + v4)).toNatClampNeg v2)) (fun σ11 => chk (inb (((60 : Int32) * v1) + v4) 180) (stl (va_up σ11 46 (upd (σ11 46) ((((60 : Int32) * v1) + v4)).toNatClampNeg v3)) (fun σ13 => some ((), σ13))))))))) else (chk (inb ((((60 : Int32) * v1) + v5) - (1 : Int32)) 180) (chk (inb (((60 : Int32) * v1) + v5) 180) (stl (va_up σ 45 (upd (σ 45) ((((60 : Int32) * v1) + v5)).toNatClampNeg (σ 45 (((((60 : Int32) * v1) + v5) - (1 : Int32))).toNatClampNeg))) (fun σ16 => chk (inb ((((60 : Int32) * v1) + v5) - (1 : Int32)) 180) (chk (inb (((60 : Int32) * v1) + v5) 180) (stl (va_up σ16 46 (upd (σ16 46) ((((60 : Int32) * v1) + v5)).toNatClampNeg (σ16 46 (((((60 : Int32) * v1) + v5) - (1 : Int32))).toNatClampNeg))) (fun σ19 => b_X5_puts_27 n v1 v2 v3 v4 (v5 + (-1)) σ19)))))))) = some (r, σ') := hf
    intro H locs ls h hl
    have hx := B.1
    have hb := B.2.1
    refine lv_iload hx hb dX5_puts_27 (lv_at hl 5 rfl) ?_
    refine lv_iload hx hb dX5_puts_29 (lv_at hl 4 rfl) ?_
    refine lv_icmp_le (tgt := 92) hx hb dX5_puts_31 (by decide) (fun c6 => ?_) (fun c6 => ?_)
    · rw [if_pos c6] at hf
      refine lv_aload_n hx hb dX5_puts_92 rfl (lv_at hl 0 rfl) ?_
      refine g_get B h 44 (by decide) (C := RX5) (T := TX5) (N := 21) (M_row _) rfl hin_X5 2 (by decide) hw831 rfl rfl dX5_puts_93 ?_
      refine lv_iload_n hx hb dX5_puts_96 rfl (lv_at hl 1 rfl) ?_
      refine lv_dup2_11 hx hb dX5_puts_97 rfl rfl ?_
      obtain ⟨c7, hf⟩ := chk_some hf
      refine g_iald B h 47 (by decide) (n := 3) (fun _ => rfl) (inb_in c7) dX5_puts_98 ?_
      refine lv_iconst (v := (1 : Int32)) hx hb dX5_puts_99 (by decide) ?_
      refine lv_iadd hx hb dX5_puts_100 ?_
      obtain ⟨c8, hf⟩ := chk_some hf
      refine g_iast B h 47 (by decide) (n := 3) (fun _ => rfl) (inb_in c8) dX5_puts_101 (fun H locs h => ?_)
      obtain ⟨σ9, e9, hf⟩ := stl_some hf
      rw [← e9] at h
      refine lv_aload_n hx hb dX5_puts_102 rfl (lv_at hl 0 rfl) ?_
      refine g_get B h 44 (by decide) (C := RX5) (T := TX5) (N := 21) (M_row _) rfl hin_X5 0 (by decide) hw829 rfl rfl dX5_puts_103 ?_
      refine lv_bipush (v := (60 : Int32)) hx hb dX5_puts_106 (by decide) ?_
      refine lv_iload_n hx hb dX5_puts_108 rfl (lv_at hl 1 rfl) ?_
      refine lv_imul hx hb dX5_puts_109 ?_
      refine lv_iload hx hb dX5_puts_110 (lv_at hl 4 rfl) ?_
      refine lv_iadd hx hb dX5_puts_112 ?_
      refine lv_iload_n hx hb dX5_puts_113 rfl (lv_at hl 2 rfl) ?_
      obtain ⟨c10, hf⟩ := chk_some hf
      refine g_iast B h 45 (by decide) (n := 180) (fun _ => rfl) (inb_in c10) dX5_puts_114 (fun H locs h => ?_)
      obtain ⟨σ11, e11, hf⟩ := stl_some hf
      rw [← e11] at h
      refine lv_aload_n hx hb dX5_puts_115 rfl (lv_at hl 0 rfl) ?_
      refine g_get B h 44 (by decide) (C := RX5) (T := TX5) (N := 21) (M_row _) rfl hin_X5 1 (by decide) hw830 rfl rfl dX5_puts_116 ?_
      refine lv_bipush (v := (60 : Int32)) hx hb dX5_puts_119 (by decide) ?_
      refine lv_iload_n hx hb dX5_puts_121 rfl (lv_at hl 1 rfl) ?_
      refine lv_imul hx hb dX5_puts_122 ?_
      refine lv_iload hx hb dX5_puts_123 (lv_at hl 4 rfl) ?_
      refine lv_iadd hx hb dX5_puts_125 ?_
      refine lv_iload_n hx hb dX5_puts_126 rfl (lv_at hl 3 rfl) ?_
      obtain ⟨c12, hf⟩ := chk_some hf
      refine g_iast B h 46 (by decide) (n := 180) (fun _ => rfl) (inb_in c12) dX5_puts_127 (fun H locs h => ?_)
      obtain ⟨σ13, e13, hf⟩ := stl_some hf
      rw [← e13] at h
      cases hf
      exact sE_v B hr h dX5_puts_128
    · rw [if_neg c6] at hf
      refine lv_aload_n hx hb dX5_puts_34 rfl (lv_at hl 0 rfl) ?_
      refine g_get B h 44 (by decide) (C := RX5) (T := TX5) (N := 21) (M_row _) rfl hin_X5 0 (by decide) hw829 rfl rfl dX5_puts_35 ?_
      refine lv_bipush (v := (60 : Int32)) hx hb dX5_puts_38 (by decide) ?_
      refine lv_iload_n hx hb dX5_puts_40 rfl (lv_at hl 1 rfl) ?_
      refine lv_imul hx hb dX5_puts_41 ?_
      refine lv_iload hx hb dX5_puts_42 (lv_at hl 5 rfl) ?_
      refine lv_iadd hx hb dX5_puts_44 ?_
      refine lv_aload_n hx hb dX5_puts_45 rfl (lv_at hl 0 rfl) ?_
      refine g_get B h 44 (by decide) (C := RX5) (T := TX5) (N := 21) (M_row _) rfl hin_X5 0 (by decide) hw829 rfl rfl dX5_puts_46 ?_
      refine lv_bipush (v := (60 : Int32)) hx hb dX5_puts_49 (by decide) ?_
      refine lv_iload_n hx hb dX5_puts_51 rfl (lv_at hl 1 rfl) ?_
      refine lv_imul hx hb dX5_puts_52 ?_
      refine lv_iload hx hb dX5_puts_53 (lv_at hl 5 rfl) ?_
      refine lv_iadd hx hb dX5_puts_55 ?_
      refine lv_iconst (v := (1 : Int32)) hx hb dX5_puts_56 (by decide) ?_
      refine lv_isub hx hb dX5_puts_57 ?_
      obtain ⟨c14, hf⟩ := chk_some hf
      refine g_iald B h 45 (by decide) (n := 180) (fun _ => rfl) (inb_in c14) dX5_puts_58 ?_
      obtain ⟨c15, hf⟩ := chk_some hf
      refine g_iast B h 45 (by decide) (n := 180) (fun _ => rfl) (inb_in c15) dX5_puts_59 (fun H locs h => ?_)
      obtain ⟨σ16, e16, hf⟩ := stl_some hf
      rw [← e16] at h
      refine lv_aload_n hx hb dX5_puts_60 rfl (lv_at hl 0 rfl) ?_
      refine g_get B h 44 (by decide) (C := RX5) (T := TX5) (N := 21) (M_row _) rfl hin_X5 1 (by decide) hw830 rfl rfl dX5_puts_61 ?_
      refine lv_bipush (v := (60 : Int32)) hx hb dX5_puts_64 (by decide) ?_
      refine lv_iload_n hx hb dX5_puts_66 rfl (lv_at hl 1 rfl) ?_
      refine lv_imul hx hb dX5_puts_67 ?_
      refine lv_iload hx hb dX5_puts_68 (lv_at hl 5 rfl) ?_
      refine lv_iadd hx hb dX5_puts_70 ?_
      refine lv_aload_n hx hb dX5_puts_71 rfl (lv_at hl 0 rfl) ?_
      refine g_get B h 44 (by decide) (C := RX5) (T := TX5) (N := 21) (M_row _) rfl hin_X5 1 (by decide) hw830 rfl rfl dX5_puts_72 ?_
      refine lv_bipush (v := (60 : Int32)) hx hb dX5_puts_75 (by decide) ?_
      refine lv_iload_n hx hb dX5_puts_77 rfl (lv_at hl 1 rfl) ?_
      refine lv_imul hx hb dX5_puts_78 ?_
      refine lv_iload hx hb dX5_puts_79 (lv_at hl 5 rfl) ?_
      refine lv_iadd hx hb dX5_puts_81 ?_
      refine lv_iconst (v := (1 : Int32)) hx hb dX5_puts_82 (by decide) ?_
      refine lv_isub hx hb dX5_puts_83 ?_
      obtain ⟨c17, hf⟩ := chk_some hf
      refine g_iald B h 46 (by decide) (n := 180) (fun _ => rfl) (inb_in c17) dX5_puts_84 ?_
      obtain ⟨c18, hf⟩ := chk_some hf
      refine g_iast B h 46 (by decide) (n := 180) (fun _ => rfl) (inb_in c18) dX5_puts_85 (fun H locs h => ?_)
      obtain ⟨σ19, e19, hf⟩ := stl_some hf
      rw [← e19] at h
      refine lv_iinc (v := (v5 + (-1))) (lv' := [(5, .int (v5 + (-1))), (0, .ref (ad 44)), (1, .int v1), (2, .int v2), (3, .int v3), (4, .int v4)]) hx hb dX5_puts_86 hl (k := 5) rfl rfl (by decide) rfl (fun ls hl => ?_)
      refine lv_goto (tgt := 27) hx hb dX5_puts_89 (by decide) ?_
      exact ih _ _ _ _ _ _ hf _ _ _ h (lv_sub hl [1, 2, 3, 4, 5, 0] rfl)
set_option maxHeartbeats 4000000 in
set_option maxRecDepth 100000 in
theorem k_X5_puts_0 {p : Program} {l : Launch} {e : Env} {s : State} {m : MethodId} {args : Array Value} {below : List Frame} {meth : Method} {c : Code} {D : va_G} {cy : Nat → ClassId} {ad : Nat → Nat} {X : sX} {r : Unit} {σ' : sM} (B : sB p l s m meth c args cX5_puts 6 RX5 D cy ad) (hr : meth.sig.returnType = none) (v1 : Int32) (v2 : Int32) (v3 : Int32) (σ : sM) (hf : f_X5_puts v1 v2 v3 σ = some (r, σ')) : sGo p l e { frames := 1, cells := 0, slots := 0, locals := 23 } s m args below meth c D cy ad X 6 (sQ below args s 0 0 D cy ad (.inr none) X σ') σ 0 [(0, .ref (ad 44)), (1, .int v1), (2, .int v2), (3, .int v3)] [] := by
  replace hf : (rthn (f_X5_placeOf v1 v2 σ) (fun vr1 => if 0 ≤ vr1 then (chk (inb (((60 : Int32) * v1) + vr1) 180) (stl (va_up σ 46 (upd (σ 46) ((((60 : Int32) * v1) + vr1)).toNatClampNeg v3)) (fun σ4 => some ((), σ4)))) else (chk (inb v1 3) (b_X5_puts_27 FU v1 v2 v3 ((-1 : Int32) - vr1) (σ 47 (v1).toNatClampNeg) σ)))) = some (r, σ') := hf
  intro H locs ls h hl
  have hx := B.1
  have hb := B.2.1
  refine lv_aload_n hx hb dX5_puts_0 rfl (lv_at hl 0 rfl) ?_
  refine lv_iload_n hx hb dX5_puts_1 rfl (lv_at hl 1 rfl) ?_
  refine lv_iload_n hx hb dX5_puts_2 rfl (lv_at hl 2 rfl) ?_
  obtain ⟨vr1, hq1, hf⟩ := rthn_some hf
  refine sRetC1 (g_runV (k := 44) (T := TX5) (N := 21) B h (ok_X5_placeOf B.2.2.2.2.2.2.2.2 B.2.2.2.2.2.2.1 _ _ v1 v2 hq1) cw_X5_68 ⟨Nat.le_of_ble_eq_true rfl, Nat.le_of_ble_eq_true rfl⟩ (by decide) (M_row _) rfl rfl hl.1.symm rfl (Nat.le_of_ble_eq_true rfl) dX5_puts_3 ⟨Nat.zero_le _, Nat.zero_le _⟩) h (fun H locs h => ?_)
  refine lv_istore (lv' := [(4, .int vr1), (0, .ref (ad 44)), (1, .int v1), (2, .int v2), (3, .int v3)]) hx hb dX5_puts_6 hl (by decide) rfl (fun ls hl => ?_)
  refine lv_iload hx hb dX5_puts_8 (lv_at hl 0 rfl) ?_
  refine lv_if_ge (tgt := 115) hx hb dX5_puts_10 (by decide) (fun c2 => ?_) (fun c2 => ?_)
  · rw [if_pos c2] at hf
    refine lv_aload_n hx hb dX5_puts_115 rfl (lv_at hl 1 rfl) ?_
    refine g_get B h 44 (by decide) (C := RX5) (T := TX5) (N := 21) (M_row _) rfl hin_X5 1 (by decide) hw830 rfl rfl dX5_puts_116 ?_
    refine lv_bipush (v := (60 : Int32)) hx hb dX5_puts_119 (by decide) ?_
    refine lv_iload_n hx hb dX5_puts_121 rfl (lv_at hl 2 rfl) ?_
    refine lv_imul hx hb dX5_puts_122 ?_
    refine lv_iload hx hb dX5_puts_123 (lv_at hl 0 rfl) ?_
    refine lv_iadd hx hb dX5_puts_125 ?_
    refine lv_iload_n hx hb dX5_puts_126 rfl (lv_at hl 4 rfl) ?_
    obtain ⟨c3, hf⟩ := chk_some hf
    refine g_iast B h 46 (by decide) (n := 180) (fun _ => rfl) (inb_in c3) dX5_puts_127 (fun H locs h => ?_)
    obtain ⟨σ4, e4, hf⟩ := stl_some hf
    rw [← e4] at h
    cases hf
    exact sE_v B hr h dX5_puts_128
  · rw [if_neg c2] at hf
    refine lv_iconst (v := (-1 : Int32)) hx hb dX5_puts_13 (by decide) ?_
    refine lv_iload hx hb dX5_puts_14 (lv_at hl 0 rfl) ?_
    refine lv_isub hx hb dX5_puts_16 ?_
    refine lv_istore (lv' := [(4, .int ((-1 : Int32) - vr1)), (0, .ref (ad 44)), (1, .int v1), (2, .int v2), (3, .int v3)]) hx hb dX5_puts_17 hl (by decide) rfl (fun ls hl => ?_)
    refine lv_aload_n hx hb dX5_puts_19 rfl (lv_at hl 1 rfl) ?_
    refine g_get B h 44 (by decide) (C := RX5) (T := TX5) (N := 21) (M_row _) rfl hin_X5 2 (by decide) hw831 rfl rfl dX5_puts_20 ?_
    refine lv_iload_n hx hb dX5_puts_23 rfl (lv_at hl 2 rfl) ?_
    obtain ⟨c5, hf⟩ := chk_some hf
    refine g_iald B h 47 (by decide) (n := 3) (fun _ => rfl) (inb_in c5) dX5_puts_24 ?_
    refine lv_istore (lv' := [(5, .int (σ 47 (v1).toNatClampNeg)), (4, .int ((-1 : Int32) - vr1)), (0, .ref (ad 44)), (1, .int v1), (2, .int v2), (3, .int v3)]) hx hb dX5_puts_25 hl (by decide) rfl (fun ls hl => ?_)
    exact k_X5_puts_27 B hr  _ _ _ _ _ _ _ hf _ _ _ h (lv_sub hl [2, 3, 4, 5, 1, 0] rfl)
set_option maxRecDepth 100000 in
theorem ok_X5_puts {l : Launch} (hl0 : l.stackTraces = false) {D : va_G} {cy : Nat → ClassId} {ad : Nat → Nat} (hap : sAp ad) (X : sX) (σ : sM) (v1 : Int32) (v2 : Int32) (v3 : Int32) {r : Unit} {σ' : sM} (hf : f_X5_puts v1 v2 v3 σ = some (r, σ')) : sMet l yX5_puts (sWs yX5_puts cX5_puts 6 none) 1 23 0 0 D cy ad X σ [.ref (ad 44), .int v1, .int v2, .int v3] (.inr none) X σ' := by
  refine sMet_of (by decide +kernel) (Nat.le_of_ble_eq_true rfl) hap hl0 ?_
  intro p e s m args below meth c ls B hr htab hl h
  exact k_X5_puts_0 B hr _ _ _ _  hf _ _ _ h hl
set_option maxHeartbeats 4000000 in
set_option maxRecDepth 100000 in
theorem k_X5_combine_190 {p : Program} {l : Launch} {e : Env} {s : State} {m : MethodId} {args : Array Value} {below : List Frame} {meth : Method} {c : Code} {D : va_G} {cy : Nat → ClassId} {ad : Nat → Nat} {X : sX} {r : Int32} {σ' : sM} (B : sB p l s m meth c args cX5_combine 11 RX5 D cy ad) (hr : meth.sig.returnType = (some .int)) {K85 : Int32 → Int32 → Int32 → Int32 → sM → Option (Int32 × sM)} (hK85 : ∀ (v1 : Int32) (v2 : Int32) (v3 : Int32) (v5 : Int32) (σ : sM), K85 v1 v2 v3 v5 σ = some (r, σ') → sGo p l e { frames := 3, cells := 0, slots := 0, locals := 69 } s m args below meth c D cy ad X 11 (sQ below args s 0 0 D cy ad (.inr (some (.int r))) X σ') σ 85 [(0, .ref (ad 44)), (1, .int v1), (2, .int v2), (3, .int v3), (5, .int v5)] []) (v1 : Int32) (v2 : Int32) (v3 : Int32) (v5 : Int32) (v6 : Int32) (v7 : Int32) (v8 : Int32) (v9 : Int32) (vs0 : Int32) (σ : sM) (hf : b_X5_combine_190 K85 v1 v2 v3 v5 v6 v7 v8 v9 vs0 σ = some (r, σ')) : sGo p l e { frames := 3, cells := 0, slots := 0, locals := 69 } s m args below meth c D cy ad X 11 (sQ below args s 0 0 D cy ad (.inr (some (.int r))) X σ') σ 190 [(0, .ref (ad 44)), (1, .int v1), (2, .int v2), (3, .int v3), (5, .int v5), (6, .int v6), (7, .int v7), (8, .int v8), (9, .int v9)] [.int vs0] := by
  replace hf : (if v8 < 0 then (if vs0 = 0 then (wthn (f_X5_puts v2 v6 v9 σ) (fun _ σ38 => K85 v1 v2 v3 (v5 + 1) σ38)) else (wthn (f_X5_puts v2 v6 v7 σ) (fun _ σ39 => K85 v1 v2 v3 (v5 + 1) σ39))) else (if v3 = (115 : Int32) then (wthn (f_X5_puts v2 v6 (v7 + v9) σ) (fun _ σ44 => K85 v1 v2 v3 (v5 + 1) σ44)) else (if vs0 = 0 then (wthn (f_X5_puts v2 v6 v9 σ) (fun _ σ42 => K85 v1 v2 v3 (v5 + 1) σ42)) else (wthn (f_X5_puts v2 v6 v7 σ) (fun _ σ43 => K85 v1 v2 v3 (v5 + 1) σ43))))) = some (r, σ') := hf
  intro H locs ls h hl
  have hx := B.1
  have hb := B.2.1
  refine lv_istore (lv' := [(10, .int vs0), (0, .ref (ad 44)), (1, .int v1), (2, .int v2), (3, .int v3), (5, .int v5), (6, .int v6), (7, .int v7), (8, .int v8), (9, .int v9)]) hx hb dX5_combine_190 hl (by decide) rfl (fun ls hl => ?_)
  refine lv_aload_n hx hb dX5_combine_192 rfl (lv_at hl 1 rfl) ?_
  refine lv_iload_n hx hb dX5_combine_193 rfl (lv_at hl 3 rfl) ?_
  refine lv_iload hx hb dX5_combine_194 (lv_at hl 6 rfl) ?_
  refine lv_iload hx hb dX5_combine_196 (lv_at hl 8 rfl) ?_
  refine lv_if_lt (tgt := 215) hx hb dX5_combine_198 (by decide) (fun c36 => ?_) (fun c36 => ?_)
  · rw [if_pos c36] at hf
    refine lv_iload hx hb dX5_combine_215 (lv_at hl 0 rfl) ?_
    refine lv_if_eq (tgt := 225) hx hb dX5_combine_217 (by decide) (fun c37 => ?_) (fun c37 => ?_)
    · rw [if_pos c37] at hf
      refine lv_iload hx hb dX5_combine_225 (lv_at hl 9 rfl) ?_
      obtain ⟨vr38, σ38, hq38, hf⟩ := wthn_some hf
      refine sRetC0 (g_runV (k := 44) (T := TX5) (N := 21) B h (ok_X5_puts B.2.2.2.2.2.2.2.2 B.2.2.2.2.2.2.1 _ _ v2 v6 v9 hq38) cw_X5_98 ⟨Nat.le_of_ble_eq_true rfl, Nat.le_of_ble_eq_true rfl⟩ (by decide) (M_row _) rfl rfl hl.1.symm rfl (Nat.le_of_ble_eq_true rfl) dX5_combine_227 ⟨Nat.zero_le _, Nat.zero_le _⟩) h (fun H locs h => ?_)
      refine lv_iinc (v := (v5 + 1)) (lv' := [(5, .int (v5 + 1)), (10, .int vs0), (0, .ref (ad 44)), (1, .int v1), (2, .int v2), (3, .int v3), (6, .int v6), (7, .int v7), (8, .int v8), (9, .int v9)]) hx hb dX5_combine_230 hl (k := 5) rfl rfl (by decide) rfl (fun ls hl => ?_)
      refine lv_goto (tgt := 85) hx hb dX5_combine_233 (by decide) ?_
      exact hK85 _ _ _ _ _ hf _ _ _ h (lv_sub hl [2, 3, 4, 5, 0] rfl)
    · rw [if_neg c37] at hf
      refine lv_iload hx hb dX5_combine_220 (lv_at hl 7 rfl) ?_
      refine lv_goto (tgt := 227) hx hb dX5_combine_222 (by decide) ?_
      obtain ⟨vr39, σ39, hq39, hf⟩ := wthn_some hf
      refine sRetC0 (g_runV (k := 44) (T := TX5) (N := 21) B h (ok_X5_puts B.2.2.2.2.2.2.2.2 B.2.2.2.2.2.2.1 _ _ v2 v6 v7 hq39) cw_X5_98 ⟨Nat.le_of_ble_eq_true rfl, Nat.le_of_ble_eq_true rfl⟩ (by decide) (M_row _) rfl rfl hl.1.symm rfl (Nat.le_of_ble_eq_true rfl) dX5_combine_227 ⟨Nat.zero_le _, Nat.zero_le _⟩) h (fun H locs h => ?_)
      refine lv_iinc (v := (v5 + 1)) (lv' := [(5, .int (v5 + 1)), (10, .int vs0), (0, .ref (ad 44)), (1, .int v1), (2, .int v2), (3, .int v3), (6, .int v6), (7, .int v7), (8, .int v8), (9, .int v9)]) hx hb dX5_combine_230 hl (k := 5) rfl rfl (by decide) rfl (fun ls hl => ?_)
      refine lv_goto (tgt := 85) hx hb dX5_combine_233 (by decide) ?_
      exact hK85 _ _ _ _ _ hf _ _ _ h (lv_sub hl [2, 3, 4, 5, 0] rfl)
  · rw [if_neg c36] at hf
    refine lv_iload_n hx hb dX5_combine_201 rfl (lv_at hl 4 rfl) ?_
    refine lv_bipush (v := (115 : Int32)) hx hb dX5_combine_202 (by decide) ?_
    refine lv_icmp_ne (tgt := 215) hx hb dX5_combine_204 (by decide) (fun c40 => ?_) (fun c40 => ?_)
    · rw [if_neg c40] at hf
      refine lv_iload hx hb dX5_combine_215 (lv_at hl 0 rfl) ?_
      refine lv_if_eq (tgt := 225) hx hb dX5_combine_217 (by decide) (fun c41 => ?_) (fun c41 => ?_)
      · rw [if_pos c41] at hf
        refine lv_iload hx hb dX5_combine_225 (lv_at hl 9 rfl) ?_
        obtain ⟨vr42, σ42, hq42, hf⟩ := wthn_some hf
        refine sRetC0 (g_runV (k := 44) (T := TX5) (N := 21) B h (ok_X5_puts B.2.2.2.2.2.2.2.2 B.2.2.2.2.2.2.1 _ _ v2 v6 v9 hq42) cw_X5_98 ⟨Nat.le_of_ble_eq_true rfl, Nat.le_of_ble_eq_true rfl⟩ (by decide) (M_row _) rfl rfl hl.1.symm rfl (Nat.le_of_ble_eq_true rfl) dX5_combine_227 ⟨Nat.zero_le _, Nat.zero_le _⟩) h (fun H locs h => ?_)
        refine lv_iinc (v := (v5 + 1)) (lv' := [(5, .int (v5 + 1)), (10, .int vs0), (0, .ref (ad 44)), (1, .int v1), (2, .int v2), (3, .int v3), (6, .int v6), (7, .int v7), (8, .int v8), (9, .int v9)]) hx hb dX5_combine_230 hl (k := 5) rfl rfl (by decide) rfl (fun ls hl => ?_)
        refine lv_goto (tgt := 85) hx hb dX5_combine_233 (by decide) ?_
        exact hK85 _ _ _ _ _ hf _ _ _ h (lv_sub hl [2, 3, 4, 5, 0] rfl)
      · rw [if_neg c41] at hf
        refine lv_iload hx hb dX5_combine_220 (lv_at hl 7 rfl) ?_
        refine lv_goto (tgt := 227) hx hb dX5_combine_222 (by decide) ?_
        obtain ⟨vr43, σ43, hq43, hf⟩ := wthn_some hf
        refine sRetC0 (g_runV (k := 44) (T := TX5) (N := 21) B h (ok_X5_puts B.2.2.2.2.2.2.2.2 B.2.2.2.2.2.2.1 _ _ v2 v6 v7 hq43) cw_X5_98 ⟨Nat.le_of_ble_eq_true rfl, Nat.le_of_ble_eq_true rfl⟩ (by decide) (M_row _) rfl rfl hl.1.symm rfl (Nat.le_of_ble_eq_true rfl) dX5_combine_227 ⟨Nat.zero_le _, Nat.zero_le _⟩) h (fun H locs h => ?_)
        refine lv_iinc (v := (v5 + 1)) (lv' := [(5, .int (v5 + 1)), (10, .int vs0), (0, .ref (ad 44)), (1, .int v1), (2, .int v2), (3, .int v3), (6, .int v6), (7, .int v7), (8, .int v8), (9, .int v9)]) hx hb dX5_combine_230 hl (k := 5) rfl rfl (by decide) rfl (fun ls hl => ?_)
        refine lv_goto (tgt := 85) hx hb dX5_combine_233 (by decide) ?_
        exact hK85 _ _ _ _ _ hf _ _ _ h (lv_sub hl [2, 3, 4, 5, 0] rfl)
    · rw [if_pos c40] at hf
      refine lv_iload hx hb dX5_combine_207 (lv_at hl 7 rfl) ?_
      refine lv_iload hx hb dX5_combine_209 (lv_at hl 9 rfl) ?_
      refine lv_iadd hx hb dX5_combine_211 ?_
      refine lv_goto (tgt := 227) hx hb dX5_combine_212 (by decide) ?_
      obtain ⟨vr44, σ44, hq44, hf⟩ := wthn_some hf
      refine sRetC0 (g_runV (k := 44) (T := TX5) (N := 21) B h (ok_X5_puts B.2.2.2.2.2.2.2.2 B.2.2.2.2.2.2.1 _ _ v2 v6 (v7 + v9) hq44) cw_X5_98 ⟨Nat.le_of_ble_eq_true rfl, Nat.le_of_ble_eq_true rfl⟩ (by decide) (M_row _) rfl rfl hl.1.symm rfl (Nat.le_of_ble_eq_true rfl) dX5_combine_227 ⟨Nat.zero_le _, Nat.zero_le _⟩) h (fun H locs h => ?_)
      refine lv_iinc (v := (v5 + 1)) (lv' := [(5, .int (v5 + 1)), (10, .int vs0), (0, .ref (ad 44)), (1, .int v1), (2, .int v2), (3, .int v3), (6, .int v6), (7, .int v7), (8, .int v8), (9, .int v9)]) hx hb dX5_combine_230 hl (k := 5) rfl rfl (by decide) rfl (fun ls hl => ?_)
      refine lv_goto (tgt := 85) hx hb dX5_combine_233 (by decide) ?_
      exact hK85 _ _ _ _ _ hf _ _ _ h (lv_sub hl [2, 3, 4, 5, 0] rfl)
set_option maxHeartbeats 4000000 in
set_option maxRecDepth 100000 in
theorem k_X5_combine_155 {p : Program} {l : Launch} {e : Env} {s : State} {m : MethodId} {args : Array Value} {below : List Frame} {meth : Method} {c : Code} {D : va_G} {cy : Nat → ClassId} {ad : Nat → Nat} {X : sX} {r : Int32} {σ' : sM} (B : sB p l s m meth c args cX5_combine 11 RX5 D cy ad) (hr : meth.sig.returnType = (some .int)) {K85 : Int32 → Int32 → Int32 → Int32 → sM → Option (Int32 × sM)} (hK85 : ∀ (v1 : Int32) (v2 : Int32) (v3 : Int32) (v5 : Int32) (σ : sM), K85 v1 v2 v3 v5 σ = some (r, σ') → sGo p l e { frames := 3, cells := 0, slots := 0, locals := 69 } s m args below meth c D cy ad X 11 (sQ below args s 0 0 D cy ad (.inr (some (.int r))) X σ') σ 85 [(0, .ref (ad 44)), (1, .int v1), (2, .int v2), (3, .int v3), (5, .int v5)] []) (v1 : Int32) (v2 : Int32) (v3 : Int32) (v5 : Int32) (v6 : Int32) (v7 : Int32) (v8 : Int32) (vs0 : Int32) (σ : sM) (hf : b_X5_combine_155 K85 v1 v2 v3 v5 v6 v7 v8 vs0 σ = some (r, σ')) : sGo p l e { frames := 3, cells := 0, slots := 0, locals := 69 } s m args below meth c D cy ad X 11 (sQ below args s 0 0 D cy ad (.inr (some (.int r))) X σ') σ 155 [(0, .ref (ad 44)), (1, .int v1), (2, .int v2), (3, .int v3), (5, .int v5), (6, .int v6), (7, .int v7), (8, .int v8)] [.int vs0] := by
  replace hf : (if v8 < 0 then (b_X5_combine_190 K85 v1 v2 v3 v5 v6 v7 v8 vs0 (1 : Int32) σ) else (if v3 = (103 : Int32) then (if v7 ≤ vs0 then (b_X5_combine_190 K85 v1 v2 v3 v5 v6 v7 v8 vs0 (0 : Int32) σ) else (b_X5_combine_190 K85 v1 v2 v3 v5 v6 v7 v8 vs0 (1 : Int32) σ)) else (if vs0 ≤ v7 then (b_X5_combine_190 K85 v1 v2 v3 v5 v6 v7 v8 vs0 (0 : Int32) σ) else (b_X5_combine_190 K85 v1 v2 v3 v5 v6 v7 v8 vs0 (1 : Int32) σ)))) = some (r, σ') := hf
  intro H locs ls h hl
  have hx := B.1
  have hb := B.2.1
  refine lv_istore (lv' := [(9, .int vs0), (0, .ref (ad 44)), (1, .int v1), (2, .int v2), (3, .int v3), (5, .int v5), (6, .int v6), (7, .int v7), (8, .int v8)]) hx hb dX5_combine_155 hl (by decide) rfl (fun ls hl => ?_)
  refine lv_iload hx hb dX5_combine_157 (lv_at hl 8 rfl) ?_
  refine lv_if_lt (tgt := 185) hx hb dX5_combine_159 (by decide) (fun c32 => ?_) (fun c32 => ?_)
  · rw [if_pos c32] at hf
    refine lv_iconst (v := (1 : Int32)) hx hb dX5_combine_185 (by decide) ?_
    refine lv_goto (tgt := 190) hx hb dX5_combine_186 (by decide) ?_
    exact k_X5_combine_190 B hr hK85 _ _ _ _ _ _ _ _ _ _ hf _ _ _ h (lv_sub hl [1, 2, 3, 4, 5, 6, 7, 8, 0] rfl)
  · rw [if_neg c32] at hf
    refine lv_iload_n hx hb dX5_combine_162 rfl (lv_at hl 4 rfl) ?_
    refine lv_bipush (v := (103 : Int32)) hx hb dX5_combine_163 (by decide) ?_
    refine lv_icmp_ne (tgt := 178) hx hb dX5_combine_165 (by decide) (fun c33 => ?_) (fun c33 => ?_)
    · rw [if_neg c33] at hf
      refine lv_iload hx hb dX5_combine_178 (lv_at hl 7 rfl) ?_
      refine lv_iload hx hb dX5_combine_180 (lv_at hl 0 rfl) ?_
      refine lv_icmp_ge (tgt := 189) hx hb dX5_combine_182 (by decide) (fun c34 => ?_) (fun c34 => ?_)
      · rw [if_pos c34] at hf
        refine lv_iconst (v := (0 : Int32)) hx hb dX5_combine_189 (by decide) ?_
        exact k_X5_combine_190 B hr hK85 _ _ _ _ _ _ _ _ _ _ hf _ _ _ h (lv_sub hl [1, 2, 3, 4, 5, 6, 7, 8, 0] rfl)
      · rw [if_neg c34] at hf
        refine lv_iconst (v := (1 : Int32)) hx hb dX5_combine_185 (by decide) ?_
        refine lv_goto (tgt := 190) hx hb dX5_combine_186 (by decide) ?_
        exact k_X5_combine_190 B hr hK85 _ _ _ _ _ _ _ _ _ _ hf _ _ _ h (lv_sub hl [1, 2, 3, 4, 5, 6, 7, 8, 0] rfl)
    · rw [if_pos c33] at hf
      refine lv_iload hx hb dX5_combine_168 (lv_at hl 7 rfl) ?_
      refine lv_iload hx hb dX5_combine_170 (lv_at hl 0 rfl) ?_
      refine lv_icmp_le (tgt := 189) hx hb dX5_combine_172 (by decide) (fun c35 => ?_) (fun c35 => ?_)
      · rw [if_pos c35] at hf
        refine lv_iconst (v := (0 : Int32)) hx hb dX5_combine_189 (by decide) ?_
        exact k_X5_combine_190 B hr hK85 _ _ _ _ _ _ _ _ _ _ hf _ _ _ h (lv_sub hl [1, 2, 3, 4, 5, 6, 7, 8, 0] rfl)
      · rw [if_neg c35] at hf
        refine lv_goto (tgt := 185) hx hb dX5_combine_175 (by decide) ?_
        refine lv_iconst (v := (1 : Int32)) hx hb dX5_combine_185 (by decide) ?_
        refine lv_goto (tgt := 190) hx hb dX5_combine_186 (by decide) ?_
        exact k_X5_combine_190 B hr hK85 _ _ _ _ _ _ _ _ _ _ hf _ _ _ h (lv_sub hl [1, 2, 3, 4, 5, 6, 7, 8, 0] rfl)
set_option maxHeartbeats 4000000 in
set_option maxRecDepth 100000 in
theorem k_X5_combine_85 {p : Program} {l : Launch} {e : Env} {s : State} {m : MethodId} {args : Array Value} {below : List Frame} {meth : Method} {c : Code} {D : va_G} {cy : Nat → ClassId} {ad : Nat → Nat} {X : sX} {r : Int32} {σ' : sM} (B : sB p l s m meth c args cX5_combine 11 RX5 D cy ad) (hr : meth.sig.returnType = (some .int)) : ∀ (n : Nat) (v1 : Int32) (v2 : Int32) (v3 : Int32) (v5 : Int32) (σ : sM), b_X5_combine_85 n v1 v2 v3 v5 σ = some (r, σ') → sGo p l e { frames := 3, cells := 0, slots := 0, locals := 69 } s m args below meth c D cy ad X 11 (sQ below args s 0 0 D cy ad (.inr (some (.int r))) X σ') σ 85 [(0, .ref (ad 44)), (1, .int v1), (2, .int v2), (3, .int v3), (5, .int v5)] [] := by
  intro n
  induction n with
  | zero =>
    intro v1 v2 v3 v5 σ hf
    exact nomatch (show none = some (r, σ') from hf)
  | succ n ih =>
    intro v1 v2 v3 v5 σ hf
    replace hf : (chk (inb v1 3) (if (σ 47 (v1).toNatClampNeg) ≤ v5 then (chk (inb v2 3) (some ((σ 47 (v2).toNatClampNeg), σ))) else (chk (inb (((60 : Int32) * v1) + v5) 180) (chk (inb (((60 : Int32) * v1) + v5) 180) (rthn (f_X5_placeOf v2 (σ 45 ((((60 : Int32) * v1) + v5)).toNatClampNeg) σ) (fun vr29 => if 0 ≤ vr29 then (chk (inb (((60 : Int32) * v2) + vr29) 180) (b_X5_combine_155 (b_X5_combine_85 n) v1 v2 v3 v5 (σ 45 ((((60 : Int32) * v1) + v5)).toNatClampNeg) (σ 46 ((((60 : Int32) * v1) + v5)).toNatClampNeg) vr29 (σ 46 ((((60 : Int32) * v2) + vr29)).toNatClampNeg) σ)) else (b_X5_combine_155 (b_X5_combine_85 n) v1 v2 v3 v5 (σ 45 ((((60 : Int32) * v1) + v5)).toNatClampNeg) (σ 46 ((((60 : Int32) * v1) + v5)).toNatClampNeg) vr29 (σ 46 ((((60 : Int32) * v1) + v5)).toNatClampNeg) σ))))))) = some (r, σ') := hf
    intro H locs ls h hl
    have hx := B.1
    have hb := B.2.1
    refine lv_iload hx hb dX5_combine_85 (lv_at hl 4 rfl) ?_
    refine lv_aload_n hx hb dX5_combine_87 rfl (lv_at hl 0 rfl) ?_
    refine g_get B h 44 (by decide) (C := RX5) (T := TX5) (N := 21) (M_row _) rfl hin_X5 2 (by decide) hw831 rfl rfl dX5_combine_88 ?_
    refine lv_iload_n hx hb dX5_combine_91 rfl (lv_at hl 1 rfl) ?_
    obtain ⟨c24, hf⟩ := chk_some hf
    refine g_iald B h 47 (by decide) (n := 3) (fun _ => rfl) (inb_in c24) dX5_combine_92 ?_
    refine lv_icmp_ge (tgt := 236) hx hb dX5_combine_93 (by decide) (fun c25 => ?_) (fun c25 => ?_)
    · rw [if_pos c25] at hf
      refine lv_aload_n hx hb dX5_combine_236 rfl (lv_at hl 0 rfl) ?_
      refine g_get B h 44 (by decide) (C := RX5) (T := TX5) (N := 21) (M_row _) rfl hin_X5 2 (by decide) hw831 rfl rfl dX5_combine_237 ?_
      refine lv_iload_n hx hb dX5_combine_240 rfl (lv_at hl 2 rfl) ?_
      obtain ⟨c26, hf⟩ := chk_some hf
      refine g_iald B h 47 (by decide) (n := 3) (fun _ => rfl) (inb_in c26) dX5_combine_241 ?_
      cases hf
      exact sE_i B hr h dX5_combine_242
    · rw [if_neg c25] at hf
      refine lv_aload_n hx hb dX5_combine_96 rfl (lv_at hl 0 rfl) ?_
      refine g_get B h 44 (by decide) (C := RX5) (T := TX5) (N := 21) (M_row _) rfl hin_X5 0 (by decide) hw829 rfl rfl dX5_combine_97 ?_
      refine lv_bipush (v := (60 : Int32)) hx hb dX5_combine_100 (by decide) ?_
      refine lv_iload_n hx hb dX5_combine_102 rfl (lv_at hl 1 rfl) ?_
      refine lv_imul hx hb dX5_combine_103 ?_
      refine lv_iload hx hb dX5_combine_104 (lv_at hl 4 rfl) ?_
      refine lv_iadd hx hb dX5_combine_106 ?_
      obtain ⟨c27, hf⟩ := chk_some hf
      refine g_iald B h 45 (by decide) (n := 180) (fun _ => rfl) (inb_in c27) dX5_combine_107 ?_
      refine lv_istore (lv' := [(6, .int (σ 45 ((((60 : Int32) * v1) + v5)).toNatClampNeg)), (0, .ref (ad 44)), (1, .int v1), (2, .int v2), (3, .int v3), (5, .int v5)]) hx hb dX5_combine_108 hl (by decide) rfl (fun ls hl => ?_)
      refine lv_aload_n hx hb dX5_combine_110 rfl (lv_at hl 1 rfl) ?_
      refine g_get B h 44 (by decide) (C := RX5) (T := TX5) (N := 21) (M_row _) rfl hin_X5 1 (by decide) hw830 rfl rfl dX5_combine_111 ?_
      refine lv_bipush (v := (60 : Int32)) hx hb dX5_combine_114 (by decide) ?_
      refine lv_iload_n hx hb dX5_combine_116 rfl (lv_at hl 2 rfl) ?_
      refine lv_imul hx hb dX5_combine_117 ?_
      refine lv_iload hx hb dX5_combine_118 (lv_at hl 5 rfl) ?_
      refine lv_iadd hx hb dX5_combine_120 ?_
      obtain ⟨c28, hf⟩ := chk_some hf
      refine g_iald B h 46 (by decide) (n := 180) (fun _ => rfl) (inb_in c28) dX5_combine_121 ?_
      refine lv_istore (lv' := [(7, .int (σ 46 ((((60 : Int32) * v1) + v5)).toNatClampNeg)), (6, .int (σ 45 ((((60 : Int32) * v1) + v5)).toNatClampNeg)), (0, .ref (ad 44)), (1, .int v1), (2, .int v2), (3, .int v3), (5, .int v5)]) hx hb dX5_combine_122 hl (by decide) rfl (fun ls hl => ?_)
      refine lv_aload_n hx hb dX5_combine_124 rfl (lv_at hl 2 rfl) ?_
      refine lv_iload_n hx hb dX5_combine_125 rfl (lv_at hl 4 rfl) ?_
      refine lv_iload hx hb dX5_combine_126 (lv_at hl 1 rfl) ?_
      obtain ⟨vr29, hq29, hf⟩ := rthn_some hf
      refine sRetC1 (g_runV (k := 44) (T := TX5) (N := 21) B h (ok_X5_placeOf B.2.2.2.2.2.2.2.2 B.2.2.2.2.2.2.1 _ _ v2 (σ 45 ((((60 : Int32) * v1) + v5)).toNatClampNeg) hq29) cw_X5_68 ⟨Nat.le_of_ble_eq_true rfl, Nat.le_of_ble_eq_true rfl⟩ (by decide) (M_row _) rfl rfl hl.1.symm rfl (Nat.le_of_ble_eq_true rfl) dX5_combine_128 ⟨Nat.zero_le _, Nat.zero_le _⟩) h (fun H locs h => ?_)
      refine lv_istore (lv' := [(8, .int vr29), (7, .int (σ 46 ((((60 : Int32) * v1) + v5)).toNatClampNeg)), (6, .int (σ 45 ((((60 : Int32) * v1) + v5)).toNatClampNeg)), (0, .ref (ad 44)), (1, .int v1), (2, .int v2), (3, .int v3), (5, .int v5)]) hx hb dX5_combine_131 hl (by decide) rfl (fun ls hl => ?_)
      refine lv_iload hx hb dX5_combine_133 (lv_at hl 0 rfl) ?_
      refine lv_if_ge (tgt := 143) hx hb dX5_combine_135 (by decide) (fun c30 => ?_) (fun c30 => ?_)
      · rw [if_pos c30] at hf
        refine lv_aload_n hx hb dX5_combine_143 rfl (lv_at hl 3 rfl) ?_
        refine g_get B h 44 (by decide) (C := RX5) (T := TX5) (N := 21) (M_row _) rfl hin_X5 1 (by decide) hw830 rfl rfl dX5_combine_144 ?_
        refine lv_bipush (v := (60 : Int32)) hx hb dX5_combine_147 (by decide) ?_
        refine lv_iload_n hx hb dX5_combine_149 rfl (lv_at hl 5 rfl) ?_
        refine lv_imul hx hb dX5_combine_150 ?_
        refine lv_iload hx hb dX5_combine_151 (lv_at hl 0 rfl) ?_
        refine lv_iadd hx hb dX5_combine_153 ?_
        obtain ⟨c31, hf⟩ := chk_some hf
        refine g_iald B h 46 (by decide) (n := 180) (fun _ => rfl) (inb_in c31) dX5_combine_154 ?_
        exact k_X5_combine_155 B hr ih _ _ _ _ _ _ _ _ _ hf _ _ _ h (lv_sub hl [3, 4, 5, 6, 7, 2, 1, 0] rfl)
      · rw [if_neg c30] at hf
        refine lv_iload hx hb dX5_combine_138 (lv_at hl 1 rfl) ?_
        refine lv_goto (tgt := 155) hx hb dX5_combine_140 (by decide) ?_
        exact k_X5_combine_155 B hr ih _ _ _ _ _ _ _ _ _ hf _ _ _ h (lv_sub hl [3, 4, 5, 6, 7, 2, 1, 0] rfl)
set_option maxHeartbeats 4000000 in
set_option maxRecDepth 100000 in
theorem k_X5_combine_23 {p : Program} {l : Launch} {e : Env} {s : State} {m : MethodId} {args : Array Value} {below : List Frame} {meth : Method} {c : Code} {D : va_G} {cy : Nat → ClassId} {ad : Nat → Nat} {X : sX} {r : Int32} {σ' : sM} (B : sB p l s m meth c args cX5_combine 11 RX5 D cy ad) (hr : meth.sig.returnType = (some .int)) (v1 : Int32) (v2 : Int32) (v3 : Int32) (vs0 : Int32) (σ : sM) (hf : b_X5_combine_23 v1 v2 v3 vs0 σ = some (r, σ')) : sGo p l e { frames := 3, cells := 0, slots := 0, locals := 69 } s m args below meth c D cy ad X 11 (sQ below args s 0 0 D cy ad (.inr (some (.int r))) X σ') σ 23 [(0, .ref (ad 44)), (1, .int v1), (2, .int v2), (3, .int v3)] [.int vs0] := by
  replace hf : (rthn (f_X5_isMap v1 σ) (fun vr4 => if vr4 = 0 then (wthn (f_X5_refused (1 : Int32) σ) (fun vr6 σ6 => if vr6 = 0 then (b_X5_combine_85 FU v1 v2 v3 (0 : Int32) σ6) else (some ((0 : Int32), σ6)))) else (rthn (f_X5_isMap v2 σ) (fun vr8 => if vr8 = 0 then (wthn (f_X5_refused (1 : Int32) σ) (fun vr22 σ22 => if vr22 = 0 then (b_X5_combine_85 FU v1 v2 v3 (0 : Int32) σ22) else (some ((0 : Int32), σ22)))) else (if vs0 = 0 then (wthn (f_X5_refused (2 : Int32) σ) (fun vr11 σ11 => if vr11 = 0 then (b_X5_combine_85 FU v1 v2 v3 (0 : Int32) σ11) else (some ((0 : Int32), σ11)))) else (if v1 = v2 then (wthn (f_X5_refused (2 : Int32) σ) (fun vr20 σ20 => if vr20 = 0 then (b_X5_combine_85 FU v1 v2 v3 (0 : Int32) σ20) else (some ((0 : Int32), σ20)))) else (rthn (f_X5_manyTogether v1 v2 σ) (fun vr14 => if vr14 ≤ (60 : Int32) then (wthn (f_X5_refused (0 : Int32) σ) (fun vr16 σ16 => if vr16 = 0 then (b_X5_combine_85 FU v1 v2 v3 (0 : Int32) σ16) else (some ((0 : Int32), σ16)))) else (wthn (f_X5_refused (3 : Int32) σ) (fun vr18 σ18 => if vr18 = 0 then (b_X5_combine_85 FU v1 v2 v3 (0 : Int32) σ18) else (some ((0 : Int32), σ18)))))))))))) = some (r, σ') := hf
  intro H locs ls h hl
  have hx := B.1
  have hb := B.2.1
  refine lv_istore (lv' := [(4, .int vs0), (0, .ref (ad 44)), (1, .int v1), (2, .int v2), (3, .int v3)]) hx hb dX5_combine_23 hl (by decide) rfl (fun ls hl => ?_)
  refine lv_aload_n hx hb dX5_combine_25 rfl (lv_at hl 1 rfl) ?_
  refine lv_iload_n hx hb dX5_combine_26 rfl (lv_at hl 2 rfl) ?_
  obtain ⟨vr4, hq4, hf⟩ := rthn_some hf
  refine sRetC1 (g_runS B h (ok_X5_isMap B.2.2.2.2.2.2.2.2 B.2.2.2.2.2.2.1 _ _ v1 hq4) cw_X5_87 ⟨Nat.le_of_ble_eq_true rfl, Nat.le_of_ble_eq_true rfl⟩ rfl hl.1.symm rfl (Nat.le_of_ble_eq_true rfl) dX5_combine_27 ⟨Nat.zero_le _, Nat.zero_le _⟩) h (fun H locs h => ?_)
  refine lv_if_eq (tgt := 40) hx hb dX5_combine_30 (by decide) (fun c5 => ?_) (fun c5 => ?_)
  · rw [if_pos c5] at hf
    refine lv_iconst (v := (1 : Int32)) hx hb dX5_combine_40 (by decide) ?_
    refine lv_goto (tgt := 74) hx hb dX5_combine_41 (by decide) ?_
    obtain ⟨vr6, σ6, hq6, hf⟩ := wthn_some hf
    refine sRetC1 (g_runV (k := 44) (T := TX5) (N := 21) B h (ok_X5_refused B.2.2.2.2.2.2.2.2 B.2.2.2.2.2.2.1 _ _ (1 : Int32) hq6) cw_X5_95 ⟨Nat.le_of_ble_eq_true rfl, Nat.le_of_ble_eq_true rfl⟩ (by decide) (M_row _) rfl rfl hl.1.symm rfl (Nat.le_of_ble_eq_true rfl) dX5_combine_74 ⟨Nat.zero_le _, Nat.zero_le _⟩) h (fun H locs h => ?_)
    refine lv_if_eq (tgt := 82) hx hb dX5_combine_77 (by decide) (fun c7 => ?_) (fun c7 => ?_)
    · rw [if_pos c7] at hf
      refine lv_iconst (v := (0 : Int32)) hx hb dX5_combine_82 (by decide) ?_
      refine lv_istore (lv' := [(5, .int (0 : Int32)), (4, .int vs0), (0, .ref (ad 44)), (1, .int v1), (2, .int v2), (3, .int v3)]) hx hb dX5_combine_83 hl (by decide) rfl (fun ls hl => ?_)
      exact k_X5_combine_85 B hr  _ _ _ _ _ _ hf _ _ _ h (lv_sub hl [2, 3, 4, 5, 0] rfl)
    · rw [if_neg c7] at hf
      refine lv_iconst (v := (0 : Int32)) hx hb dX5_combine_80 (by decide) ?_
      cases hf
      exact sE_i B hr h dX5_combine_81
  · rw [if_neg c5] at hf
    refine lv_iload_n hx hb dX5_combine_33 rfl (lv_at hl 3 rfl) ?_
    obtain ⟨vr8, hq8, hf⟩ := rthn_some hf
    refine sRetC1 (g_runS B h (ok_X5_isMap B.2.2.2.2.2.2.2.2 B.2.2.2.2.2.2.1 _ _ v2 hq8) cw_X5_87 ⟨Nat.le_of_ble_eq_true rfl, Nat.le_of_ble_eq_true rfl⟩ rfl hl.1.symm rfl (Nat.le_of_ble_eq_true rfl) dX5_combine_34 ⟨Nat.zero_le _, Nat.zero_le _⟩) h (fun H locs h => ?_)
    refine lv_if_ne (tgt := 44) hx hb dX5_combine_37 (by decide) (fun c9 => ?_) (fun c9 => ?_)
    · rw [if_neg c9] at hf
      refine lv_iload hx hb dX5_combine_44 (lv_at hl 0 rfl) ?_
      refine lv_if_eq (tgt := 54) hx hb dX5_combine_46 (by decide) (fun c10 => ?_) (fun c10 => ?_)
      · rw [if_pos c10] at hf
        refine lv_iconst (v := (2 : Int32)) hx hb dX5_combine_54 (by decide) ?_
        refine lv_goto (tgt := 74) hx hb dX5_combine_55 (by decide) ?_
        obtain ⟨vr11, σ11, hq11, hf⟩ := wthn_some hf
        refine sRetC1 (g_runV (k := 44) (T := TX5) (N := 21) B h (ok_X5_refused B.2.2.2.2.2.2.2.2 B.2.2.2.2.2.2.1 _ _ (2 : Int32) hq11) cw_X5_95 ⟨Nat.le_of_ble_eq_true rfl, Nat.le_of_ble_eq_true rfl⟩ (by decide) (M_row _) rfl rfl hl.1.symm rfl (Nat.le_of_ble_eq_true rfl) dX5_combine_74 ⟨Nat.zero_le _, Nat.zero_le _⟩) h (fun H locs h => ?_)
        refine lv_if_eq (tgt := 82) hx hb dX5_combine_77 (by decide) (fun c12 => ?_) (fun c12 => ?_)
        · rw [if_pos c12] at hf
          refine lv_iconst (v := (0 : Int32)) hx hb dX5_combine_82 (by decide) ?_
          refine lv_istore (lv' := [(5, .int (0 : Int32)), (4, .int vs0), (0, .ref (ad 44)), (1, .int v1), (2, .int v2), (3, .int v3)]) hx hb dX5_combine_83 hl (by decide) rfl (fun ls hl => ?_)
          exact k_X5_combine_85 B hr  _ _ _ _ _ _ hf _ _ _ h (lv_sub hl [2, 3, 4, 5, 0] rfl)
        · rw [if_neg c12] at hf
          refine lv_iconst (v := (0 : Int32)) hx hb dX5_combine_80 (by decide) ?_
          cases hf
          exact sE_i B hr h dX5_combine_81
      · rw [if_neg c10] at hf
        refine lv_iload_n hx hb dX5_combine_49 rfl (lv_at hl 2 rfl) ?_
        refine lv_iload_n hx hb dX5_combine_50 rfl (lv_at hl 3 rfl) ?_
        refine lv_icmp_ne (tgt := 58) hx hb dX5_combine_51 (by decide) (fun c13 => ?_) (fun c13 => ?_)
        · rw [if_neg c13] at hf
          refine lv_aload_n hx hb dX5_combine_58 rfl (lv_at hl 1 rfl) ?_
          refine lv_iload_n hx hb dX5_combine_59 rfl (lv_at hl 2 rfl) ?_
          refine lv_iload_n hx hb dX5_combine_60 rfl (lv_at hl 3 rfl) ?_
          obtain ⟨vr14, hq14, hf⟩ := rthn_some hf
          refine sRetC1 (g_runV (k := 44) (T := TX5) (N := 21) B h (ok_X5_manyTogether B.2.2.2.2.2.2.2.2 B.2.2.2.2.2.2.1 _ _ v1 v2 hq14) cw_X5_158 ⟨Nat.le_of_ble_eq_true rfl, Nat.le_of_ble_eq_true rfl⟩ (by decide) (M_row _) rfl rfl hl.1.symm rfl (Nat.le_of_ble_eq_true rfl) dX5_combine_61 ⟨Nat.zero_le _, Nat.zero_le _⟩) h (fun H locs h => ?_)
          refine lv_bipush (v := (60 : Int32)) hx hb dX5_combine_64 (by decide) ?_
          refine lv_icmp_le (tgt := 73) hx hb dX5_combine_66 (by decide) (fun c15 => ?_) (fun c15 => ?_)
          · rw [if_pos c15] at hf
            refine lv_iconst (v := (0 : Int32)) hx hb dX5_combine_73 (by decide) ?_
            obtain ⟨vr16, σ16, hq16, hf⟩ := wthn_some hf
            refine sRetC1 (g_runV (k := 44) (T := TX5) (N := 21) B h (ok_X5_refused B.2.2.2.2.2.2.2.2 B.2.2.2.2.2.2.1 _ _ (0 : Int32) hq16) cw_X5_95 ⟨Nat.le_of_ble_eq_true rfl, Nat.le_of_ble_eq_true rfl⟩ (by decide) (M_row _) rfl rfl hl.1.symm rfl (Nat.le_of_ble_eq_true rfl) dX5_combine_74 ⟨Nat.zero_le _, Nat.zero_le _⟩) h (fun H locs h => ?_)
            refine lv_if_eq (tgt := 82) hx hb dX5_combine_77 (by decide) (fun c17 => ?_) (fun c17 => ?_)
            · rw [if_pos c17] at hf
              refine lv_iconst (v := (0 : Int32)) hx hb dX5_combine_82 (by decide) ?_
              refine lv_istore (lv' := [(5, .int (0 : Int32)), (4, .int vs0), (0, .ref (ad 44)), (1, .int v1), (2, .int v2), (3, .int v3)]) hx hb dX5_combine_83 hl (by decide) rfl (fun ls hl => ?_)
              exact k_X5_combine_85 B hr  _ _ _ _ _ _ hf _ _ _ h (lv_sub hl [2, 3, 4, 5, 0] rfl)
            · rw [if_neg c17] at hf
              refine lv_iconst (v := (0 : Int32)) hx hb dX5_combine_80 (by decide) ?_
              cases hf
              exact sE_i B hr h dX5_combine_81
          · rw [if_neg c15] at hf
            refine lv_iconst (v := (3 : Int32)) hx hb dX5_combine_69 (by decide) ?_
            refine lv_goto (tgt := 74) hx hb dX5_combine_70 (by decide) ?_
            obtain ⟨vr18, σ18, hq18, hf⟩ := wthn_some hf
            refine sRetC1 (g_runV (k := 44) (T := TX5) (N := 21) B h (ok_X5_refused B.2.2.2.2.2.2.2.2 B.2.2.2.2.2.2.1 _ _ (3 : Int32) hq18) cw_X5_95 ⟨Nat.le_of_ble_eq_true rfl, Nat.le_of_ble_eq_true rfl⟩ (by decide) (M_row _) rfl rfl hl.1.symm rfl (Nat.le_of_ble_eq_true rfl) dX5_combine_74 ⟨Nat.zero_le _, Nat.zero_le _⟩) h (fun H locs h => ?_)
            refine lv_if_eq (tgt := 82) hx hb dX5_combine_77 (by decide) (fun c19 => ?_) (fun c19 => ?_)
            · rw [if_pos c19] at hf
              refine lv_iconst (v := (0 : Int32)) hx hb dX5_combine_82 (by decide) ?_
              refine lv_istore (lv' := [(5, .int (0 : Int32)), (4, .int vs0), (0, .ref (ad 44)), (1, .int v1), (2, .int v2), (3, .int v3)]) hx hb dX5_combine_83 hl (by decide) rfl (fun ls hl => ?_)
              exact k_X5_combine_85 B hr  _ _ _ _ _ _ hf _ _ _ h (lv_sub hl [2, 3, 4, 5, 0] rfl)
            · rw [if_neg c19] at hf
              refine lv_iconst (v := (0 : Int32)) hx hb dX5_combine_80 (by decide) ?_
              cases hf
              exact sE_i B hr h dX5_combine_81
        · rw [if_pos c13] at hf
          refine lv_iconst (v := (2 : Int32)) hx hb dX5_combine_54 (by decide) ?_
          refine lv_goto (tgt := 74) hx hb dX5_combine_55 (by decide) ?_
          obtain ⟨vr20, σ20, hq20, hf⟩ := wthn_some hf
          refine sRetC1 (g_runV (k := 44) (T := TX5) (N := 21) B h (ok_X5_refused B.2.2.2.2.2.2.2.2 B.2.2.2.2.2.2.1 _ _ (2 : Int32) hq20) cw_X5_95 ⟨Nat.le_of_ble_eq_true rfl, Nat.le_of_ble_eq_true rfl⟩ (by decide) (M_row _) rfl rfl hl.1.symm rfl (Nat.le_of_ble_eq_true rfl) dX5_combine_74 ⟨Nat.zero_le _, Nat.zero_le _⟩) h (fun H locs h => ?_)
          refine lv_if_eq (tgt := 82) hx hb dX5_combine_77 (by decide) (fun c21 => ?_) (fun c21 => ?_)
          · rw [if_pos c21] at hf
            refine lv_iconst (v := (0 : Int32)) hx hb dX5_combine_82 (by decide) ?_
            refine lv_istore (lv' := [(5, .int (0 : Int32)), (4, .int vs0), (0, .ref (ad 44)), (1, .int v1), (2, .int v2), (3, .int v3)]) hx hb dX5_combine_83 hl (by decide) rfl (fun ls hl => ?_)
            exact k_X5_combine_85 B hr  _ _ _ _ _ _ hf _ _ _ h (lv_sub hl [2, 3, 4, 5, 0] rfl)
          · rw [if_neg c21] at hf
            refine lv_iconst (v := (0 : Int32)) hx hb dX5_combine_80 (by decide) ?_
            cases hf
            exact sE_i B hr h dX5_combine_81
    · rw [if_pos c9] at hf
      refine lv_iconst (v := (1 : Int32)) hx hb dX5_combine_40 (by decide) ?_
      refine lv_goto (tgt := 74) hx hb dX5_combine_41 (by decide) ?_
      obtain ⟨vr22, σ22, hq22, hf⟩ := wthn_some hf
      refine sRetC1 (g_runV (k := 44) (T := TX5) (N := 21) B h (ok_X5_refused B.2.2.2.2.2.2.2.2 B.2.2.2.2.2.2.1 _ _ (1 : Int32) hq22) cw_X5_95 ⟨Nat.le_of_ble_eq_true rfl, Nat.le_of_ble_eq_true rfl⟩ (by decide) (M_row _) rfl rfl hl.1.symm rfl (Nat.le_of_ble_eq_true rfl) dX5_combine_74 ⟨Nat.zero_le _, Nat.zero_le _⟩) h (fun H locs h => ?_)
      refine lv_if_eq (tgt := 82) hx hb dX5_combine_77 (by decide) (fun c23 => ?_) (fun c23 => ?_)
      · rw [if_pos c23] at hf
        refine lv_iconst (v := (0 : Int32)) hx hb dX5_combine_82 (by decide) ?_
        refine lv_istore (lv' := [(5, .int (0 : Int32)), (4, .int vs0), (0, .ref (ad 44)), (1, .int v1), (2, .int v2), (3, .int v3)]) hx hb dX5_combine_83 hl (by decide) rfl (fun ls hl => ?_)
        exact k_X5_combine_85 B hr  _ _ _ _ _ _ hf _ _ _ h (lv_sub hl [2, 3, 4, 5, 0] rfl)
      · rw [if_neg c23] at hf
        refine lv_iconst (v := (0 : Int32)) hx hb dX5_combine_80 (by decide) ?_
        cases hf
        exact sE_i B hr h dX5_combine_81
set_option maxHeartbeats 4000000 in
set_option maxRecDepth 100000 in
theorem k_X5_combine_0 {p : Program} {l : Launch} {e : Env} {s : State} {m : MethodId} {args : Array Value} {below : List Frame} {meth : Method} {c : Code} {D : va_G} {cy : Nat → ClassId} {ad : Nat → Nat} {X : sX} {r : Int32} {σ' : sM} (B : sB p l s m meth c args cX5_combine 11 RX5 D cy ad) (hr : meth.sig.returnType = (some .int)) (v1 : Int32) (v2 : Int32) (v3 : Int32) (σ : sM) (hf : f_X5_combine v1 v2 v3 σ = some (r, σ')) : sGo p l e { frames := 3, cells := 0, slots := 0, locals := 69 } s m args below meth c D cy ad X 11 (sQ below args s 0 0 D cy ad (.inr (some (.int r))) X σ') σ 0 [(0, .ref (ad 44)), (1, .int v1), (2, .int v2), (3, .int v3)] [] := by
  replace hf : (if v3 = (115 : Int32) then (b_X5_combine_23 v1 v2 v3 (1 : Int32) σ) else (if v3 = (103 : Int32) then (b_X5_combine_23 v1 v2 v3 (1 : Int32) σ) else (if v3 = (108 : Int32) then (b_X5_combine_23 v1 v2 v3 (1 : Int32) σ) else (b_X5_combine_23 v1 v2 v3 (0 : Int32) σ)))) = some (r, σ') := hf
  intro H locs ls h hl
  have hx := B.1
  have hb := B.2.1
  refine lv_iload_n hx hb dX5_combine_0 rfl (lv_at hl 3 rfl) ?_
  refine lv_bipush (v := (115 : Int32)) hx hb dX5_combine_1 (by decide) ?_
  refine lv_icmp_eq (tgt := 18) hx hb dX5_combine_3 (by decide) (fun c1 => ?_) (fun c1 => ?_)
  · rw [if_pos c1] at hf
    refine lv_iconst (v := (1 : Int32)) hx hb dX5_combine_18 (by decide) ?_
    refine lv_goto (tgt := 23) hx hb dX5_combine_19 (by decide) ?_
    exact k_X5_combine_23 B hr  _ _ _ _ _ hf _ _ _ h (lv_sub hl [0, 1, 2, 3] rfl)
  · rw [if_neg c1] at hf
    refine lv_iload_n hx hb dX5_combine_6 rfl (lv_at hl 3 rfl) ?_
    refine lv_bipush (v := (103 : Int32)) hx hb dX5_combine_7 (by decide) ?_
    refine lv_icmp_eq (tgt := 18) hx hb dX5_combine_9 (by decide) (fun c2 => ?_) (fun c2 => ?_)
    · rw [if_pos c2] at hf
      refine lv_iconst (v := (1 : Int32)) hx hb dX5_combine_18 (by decide) ?_
      refine lv_goto (tgt := 23) hx hb dX5_combine_19 (by decide) ?_
      exact k_X5_combine_23 B hr  _ _ _ _ _ hf _ _ _ h (lv_sub hl [0, 1, 2, 3] rfl)
    · rw [if_neg c2] at hf
      refine lv_iload_n hx hb dX5_combine_12 rfl (lv_at hl 3 rfl) ?_
      refine lv_bipush (v := (108 : Int32)) hx hb dX5_combine_13 (by decide) ?_
      refine lv_icmp_ne (tgt := 22) hx hb dX5_combine_15 (by decide) (fun c3 => ?_) (fun c3 => ?_)
      · rw [if_neg c3] at hf
        refine lv_iconst (v := (0 : Int32)) hx hb dX5_combine_22 (by decide) ?_
        exact k_X5_combine_23 B hr  _ _ _ _ _ hf _ _ _ h (lv_sub hl [0, 1, 2, 3] rfl)
      · rw [if_pos c3] at hf
        refine lv_iconst (v := (1 : Int32)) hx hb dX5_combine_18 (by decide) ?_
        refine lv_goto (tgt := 23) hx hb dX5_combine_19 (by decide) ?_
        exact k_X5_combine_23 B hr  _ _ _ _ _ hf _ _ _ h (lv_sub hl [0, 1, 2, 3] rfl)
set_option maxRecDepth 100000 in
theorem ok_X5_combine {l : Launch} (hl0 : l.stackTraces = false) {D : va_G} {cy : Nat → ClassId} {ad : Nat → Nat} (hap : sAp ad) (X : sX) (σ : sM) (v1 : Int32) (v2 : Int32) (v3 : Int32) {r : Int32} {σ' : sM} (hf : f_X5_combine v1 v2 v3 σ = some (r, σ')) : sMet l yX5_combine (sWs yX5_combine cX5_combine 11 (some .int)) 3 69 0 0 D cy ad X σ [.ref (ad 44), .int v1, .int v2, .int v3] (.inr (some (.int r))) X σ' := by
  refine sMet_of (by decide +kernel) (Nat.le_of_ble_eq_true rfl) hap hl0 ?_
  intro p e s m args below meth c ls B hr htab hl h
  exact k_X5_combine_0 B hr _ _ _ _  hf _ _ _ h hl
set_option maxHeartbeats 4000000 in
set_option maxRecDepth 100000 in
theorem k_X5_isView_0 {p : Program} {l : Launch} {e : Env} {s : State} {m : MethodId} {args : Array Value} {below : List Frame} {meth : Method} {c : Code} {D : va_G} {cy : Nat → ClassId} {ad : Nat → Nat} {X : sX} {r : Int32} (B : sB p l s m meth c args cX5_isView 1 RX5 D cy ad) (hr : meth.sig.returnType = (some .boolean)) (v0 : Int32) (σ : sM) (hf : f_X5_isView v0 σ = some r) : sGo p l e { frames := 1, cells := 0, slots := 0, locals := 22 } s m args below meth c D cy ad X 1 (sQ below args s 0 0 D cy ad (.inr (some (.int r))) X σ) σ 0 [(0, .int v0)] [] := by
  replace hf : (rthn (f_X5_in v0 (0 : Int32) (3 : Int32) σ) (fun vr1 => chk (isb vr1) (some vr1))) = some r := hf
  intro H locs ls h hl
  have hx := B.1
  have hb := B.2.1
  refine lv_iload_n hx hb dX5_isView_0 rfl (lv_at hl 0 rfl) ?_
  refine lv_iconst (v := (0 : Int32)) hx hb dX5_isView_1 (by decide) ?_
  refine lv_iconst (v := (3 : Int32)) hx hb dX5_isView_2 (by decide) ?_
  obtain ⟨vr1, hq1, hf⟩ := rthn_some hf
  refine sRetC1 (g_runS B h (ok_X5_in B.2.2.2.2.2.2.2.2 B.2.2.2.2.2.2.1 _ _ v0 (0 : Int32) (3 : Int32) hq1) cw_X5_64 ⟨Nat.le_of_ble_eq_true rfl, Nat.le_of_ble_eq_true rfl⟩ rfl hl.1.symm rfl (Nat.le_of_ble_eq_true rfl) dX5_isView_3 ⟨Nat.zero_le _, Nat.zero_le _⟩) h (fun H locs h => ?_)
  obtain ⟨c2, hf⟩ := chk_some hf
  cases hf
  exact sE_z B hr h (isb_n c2) dX5_isView_6
set_option maxRecDepth 100000 in
theorem ok_X5_isView {l : Launch} (hl0 : l.stackTraces = false) {D : va_G} {cy : Nat → ClassId} {ad : Nat → Nat} (hap : sAp ad) (X : sX) (σ : sM) (v0 : Int32) {r : Int32} (hf : f_X5_isView v0 σ = some r) : sMet l yX5_isView (sWs yX5_isView cX5_isView 1 (some .boolean)) 1 22 0 0 D cy ad X σ [.int v0] (.inr (some (.int r))) X σ := by
  refine sMet_of (by decide +kernel) (Nat.le_of_ble_eq_true rfl) hap hl0 ?_
  intro p e s m args below meth c ls B hr htab hl h
  exact k_X5_isView_0 B hr _ _  hf _ _ _ h hl
set_option maxHeartbeats 4000000 in
set_option maxRecDepth 100000 in
theorem k_X5_cut_172 {p : Program} {l : Launch} {e : Env} {s : State} {m : MethodId} {args : Array Value} {below : List Frame} {meth : Method} {c : Code} {D : va_G} {cy : Nat → ClassId} {ad : Nat → Nat} {X : sX} {r : Int32} {σ' : sM} (B : sB p l s m meth c args cX5_cut 6 RX5 D cy ad) (hr : meth.sig.returnType = (some .int)) (v1 : Int32) (v2 : Int32) (vs1 : Int32) (vs2 : Int32) (σ : sM) (hf : b_X5_cut_172 v1 v2 vs1 vs2 σ = some (r, σ')) : sGo p l e { frames := 3, cells := 0, slots := 0, locals := 68 } s m args below meth c D cy ad X 6 (sQ below args s 0 0 D cy ad (.inr (some (.int r))) X σ') σ 172 [(0, .ref (ad 44)), (1, .int v1), (2, .int v2)] [.int vs2, .int vs1, .ref (ad 53)] := by
  replace hf : (chk (inb vs1 4) (stl (va_up σ 53 (upd (σ 53) (vs1).toNatClampNeg (vp_nar .boolean vs2))) (fun σ41 => chk (inb v2 4) (chk (inb v1 4) (stl (va_up σ41 54 (upd (σ41 54) (v1).toNatClampNeg ((σ41 54 (v2).toNatClampNeg) + (1 : Int32)))) (fun σ44 => rthn (f_X5_manyOf v1 σ44) (fun vr45 => some (vr45, σ44)))))))) = some (r, σ') := hf
  intro H locs ls h hl
  have hx := B.1
  have hb := B.2.1
  obtain ⟨c40, hf⟩ := chk_some hf
  refine g_zast B h 53 (by decide) (n := 4) (fun _ => rfl) (inb_in c40) dX5_cut_172 (fun H locs h => ?_)
  obtain ⟨σ41, e41, hf⟩ := stl_some hf
  rw [← e41] at h
  refine lv_aload_n hx hb dX5_cut_173 rfl (lv_at hl 0 rfl) ?_
  refine g_get B h 44 (by decide) (C := RX5) (T := TX5) (N := 21) (M_row _) rfl hin_X5 9 (by decide) hw838 rfl rfl dX5_cut_174 ?_
  refine lv_iload_n hx hb dX5_cut_177 rfl (lv_at hl 1 rfl) ?_
  refine lv_aload_n hx hb dX5_cut_178 rfl (lv_at hl 0 rfl) ?_
  refine g_get B h 44 (by decide) (C := RX5) (T := TX5) (N := 21) (M_row _) rfl hin_X5 9 (by decide) hw838 rfl rfl dX5_cut_179 ?_
  refine lv_iload_n hx hb dX5_cut_182 rfl (lv_at hl 2 rfl) ?_
  obtain ⟨c42, hf⟩ := chk_some hf
  refine g_iald B h 54 (by decide) (n := 4) (fun _ => rfl) (inb_in c42) dX5_cut_183 ?_
  refine lv_iconst (v := (1 : Int32)) hx hb dX5_cut_184 (by decide) ?_
  refine lv_iadd hx hb dX5_cut_185 ?_
  obtain ⟨c43, hf⟩ := chk_some hf
  refine g_iast B h 54 (by decide) (n := 4) (fun _ => rfl) (inb_in c43) dX5_cut_186 (fun H locs h => ?_)
  obtain ⟨σ44, e44, hf⟩ := stl_some hf
  rw [← e44] at h
  refine lv_aload_n hx hb dX5_cut_187 rfl (lv_at hl 0 rfl) ?_
  refine lv_iload_n hx hb dX5_cut_188 rfl (lv_at hl 1 rfl) ?_
  obtain ⟨vr45, hq45, hf⟩ := rthn_some hf
  refine sRetC1 (g_runV (k := 44) (T := TX5) (N := 21) B h (ok_X5_manyOf B.2.2.2.2.2.2.2.2 B.2.2.2.2.2.2.1 _ _ v1 hq45) cw_X5_129 ⟨Nat.le_of_ble_eq_true rfl, Nat.le_of_ble_eq_true rfl⟩ (by decide) (M_row _) rfl rfl hl.1.symm rfl (Nat.le_of_ble_eq_true rfl) dX5_cut_189 ⟨Nat.zero_le _, Nat.zero_le _⟩) h (fun H locs h => ?_)
  cases hf
  exact sE_i B hr h dX5_cut_192
set_option maxHeartbeats 4000000 in
set_option maxRecDepth 100000 in
theorem k_X5_cut_130 {p : Program} {l : Launch} {e : Env} {s : State} {m : MethodId} {args : Array Value} {below : List Frame} {meth : Method} {c : Code} {D : va_G} {cy : Nat → ClassId} {ad : Nat → Nat} {X : sX} {r : Int32} {σ' : sM} (B : sB p l s m meth c args cX5_cut 6 RX5 D cy ad) (hr : meth.sig.returnType = (some .int)) (v1 : Int32) (v2 : Int32) (v3 : Int32) (v4 : Int32) (v5 : Int32) (vs1 : Int32) (vs2 : Int32) (σ : sM) (hf : b_X5_cut_130 v1 v2 v3 v4 v5 vs1 vs2 σ = some (r, σ')) : sGo p l e { frames := 3, cells := 0, slots := 0, locals := 68 } s m args below meth c D cy ad X 6 (sQ below args s 0 0 D cy ad (.inr (some (.int r))) X σ') σ 130 [(0, .ref (ad 44)), (1, .int v1), (2, .int v2), (3, .int v3), (4, .int v4), (5, .int v5)] [.int vs2, .int vs1, .ref (ad 52)] := by
  replace hf : (chk (inb vs1 4) (stl (va_up σ 52 (upd (σ 52) (vs1).toNatClampNeg (vp_nar .boolean vs2))) (fun σ29 => if v3 = 0 then (chk (inb v2 4) (chk (inb v1 4) (stl (va_up σ29 51 (upd (σ29 51) (v1).toNatClampNeg (σ29 51 (v2).toNatClampNeg))) (fun σ33 => if v3 = 0 then (chk (inb v2 4) (b_X5_cut_172 v1 v2 v1 (σ33 53 (v2).toNatClampNeg) σ33)) else (b_X5_cut_172 v1 v2 v1 v5 σ33))))) else (chk (inb v1 4) (stl (va_up σ29 51 (upd (σ29 51) (v1).toNatClampNeg v4)) (fun σ37 => if v3 = 0 then (chk (inb v2 4) (b_X5_cut_172 v1 v2 v1 (σ37 53 (v2).toNatClampNeg) σ37)) else (b_X5_cut_172 v1 v2 v1 v5 σ37))))))) = some (r, σ') := hf
  intro H locs ls h hl
  have hx := B.1
  have hb := B.2.1
  obtain ⟨c28, hf⟩ := chk_some hf
  refine g_zast B h 52 (by decide) (n := 4) (fun _ => rfl) (inb_in c28) dX5_cut_130 (fun H locs h => ?_)
  obtain ⟨σ29, e29, hf⟩ := stl_some hf
  rw [← e29] at h
  refine lv_aload_n hx hb dX5_cut_131 rfl (lv_at hl 0 rfl) ?_
  refine g_get B h 44 (by decide) (C := RX5) (T := TX5) (N := 21) (M_row _) rfl hin_X5 6 (by decide) hw835 rfl rfl dX5_cut_132 ?_
  refine lv_iload_n hx hb dX5_cut_135 rfl (lv_at hl 1 rfl) ?_
  refine lv_iload_n hx hb dX5_cut_136 rfl (lv_at hl 3 rfl) ?_
  refine lv_if_eq (tgt := 145) hx hb dX5_cut_137 (by decide) (fun c30 => ?_) (fun c30 => ?_)
  · rw [if_pos c30] at hf
    refine lv_aload_n hx hb dX5_cut_145 rfl (lv_at hl 0 rfl) ?_
    refine g_get B h 44 (by decide) (C := RX5) (T := TX5) (N := 21) (M_row _) rfl hin_X5 6 (by decide) hw835 rfl rfl dX5_cut_146 ?_
    refine lv_iload_n hx hb dX5_cut_149 rfl (lv_at hl 2 rfl) ?_
    obtain ⟨c31, hf⟩ := chk_some hf
    refine g_iald B h 51 (by decide) (n := 4) (fun _ => rfl) (inb_in c31) dX5_cut_150 ?_
    obtain ⟨c32, hf⟩ := chk_some hf
    refine g_iast B h 51 (by decide) (n := 4) (fun _ => rfl) (inb_in c32) dX5_cut_151 (fun H locs h => ?_)
    obtain ⟨σ33, e33, hf⟩ := stl_some hf
    rw [← e33] at h
    refine lv_aload_n hx hb dX5_cut_152 rfl (lv_at hl 0 rfl) ?_
    refine g_get B h 44 (by decide) (C := RX5) (T := TX5) (N := 21) (M_row _) rfl hin_X5 8 (by decide) hw837 rfl rfl dX5_cut_153 ?_
    refine lv_iload_n hx hb dX5_cut_156 rfl (lv_at hl 1 rfl) ?_
    refine lv_iload_n hx hb dX5_cut_157 rfl (lv_at hl 3 rfl) ?_
    refine lv_if_eq (tgt := 166) hx hb dX5_cut_158 (by decide) (fun c34 => ?_) (fun c34 => ?_)
    · rw [if_pos c34] at hf
      refine lv_aload_n hx hb dX5_cut_166 rfl (lv_at hl 0 rfl) ?_
      refine g_get B h 44 (by decide) (C := RX5) (T := TX5) (N := 21) (M_row _) rfl hin_X5 8 (by decide) hw837 rfl rfl dX5_cut_167 ?_
      refine lv_iload_n hx hb dX5_cut_170 rfl (lv_at hl 2 rfl) ?_
      obtain ⟨c35, hf⟩ := chk_some hf
      refine g_zald B h 53 (by decide) (n := 4) (fun _ => rfl) (inb_in c35) dX5_cut_171 ?_
      exact k_X5_cut_172 B hr  _ _ _ _ _ hf _ _ _ h (lv_sub hl [0, 1, 2] rfl)
    · rw [if_neg c34] at hf
      refine lv_iload hx hb dX5_cut_161 (lv_at hl 5 rfl) ?_
      refine lv_goto (tgt := 172) hx hb dX5_cut_163 (by decide) ?_
      exact k_X5_cut_172 B hr  _ _ _ _ _ hf _ _ _ h (lv_sub hl [0, 1, 2] rfl)
  · rw [if_neg c30] at hf
    refine lv_iload hx hb dX5_cut_140 (lv_at hl 4 rfl) ?_
    refine lv_goto (tgt := 151) hx hb dX5_cut_142 (by decide) ?_
    obtain ⟨c36, hf⟩ := chk_some hf
    refine g_iast B h 51 (by decide) (n := 4) (fun _ => rfl) (inb_in c36) dX5_cut_151 (fun H locs h => ?_)
    obtain ⟨σ37, e37, hf⟩ := stl_some hf
    rw [← e37] at h
    refine lv_aload_n hx hb dX5_cut_152 rfl (lv_at hl 0 rfl) ?_
    refine g_get B h 44 (by decide) (C := RX5) (T := TX5) (N := 21) (M_row _) rfl hin_X5 8 (by decide) hw837 rfl rfl dX5_cut_153 ?_
    refine lv_iload_n hx hb dX5_cut_156 rfl (lv_at hl 1 rfl) ?_
    refine lv_iload_n hx hb dX5_cut_157 rfl (lv_at hl 3 rfl) ?_
    refine lv_if_eq (tgt := 166) hx hb dX5_cut_158 (by decide) (fun c38 => ?_) (fun c38 => ?_)
    · rw [if_pos c38] at hf
      refine lv_aload_n hx hb dX5_cut_166 rfl (lv_at hl 0 rfl) ?_
      refine g_get B h 44 (by decide) (C := RX5) (T := TX5) (N := 21) (M_row _) rfl hin_X5 8 (by decide) hw837 rfl rfl dX5_cut_167 ?_
      refine lv_iload_n hx hb dX5_cut_170 rfl (lv_at hl 2 rfl) ?_
      obtain ⟨c39, hf⟩ := chk_some hf
      refine g_zald B h 53 (by decide) (n := 4) (fun _ => rfl) (inb_in c39) dX5_cut_171 ?_
      exact k_X5_cut_172 B hr  _ _ _ _ _ hf _ _ _ h (lv_sub hl [0, 1, 2] rfl)
    · rw [if_neg c38] at hf
      refine lv_iload hx hb dX5_cut_161 (lv_at hl 5 rfl) ?_
      refine lv_goto (tgt := 172) hx hb dX5_cut_163 (by decide) ?_
      exact k_X5_cut_172 B hr  _ _ _ _ _ hf _ _ _ h (lv_sub hl [0, 1, 2] rfl)
set_option maxHeartbeats 4000000 in
set_option maxRecDepth 100000 in
theorem k_X5_cut_62 {p : Program} {l : Launch} {e : Env} {s : State} {m : MethodId} {args : Array Value} {below : List Frame} {meth : Method} {c : Code} {D : va_G} {cy : Nat → ClassId} {ad : Nat → Nat} {X : sX} {r : Int32} {σ' : sM} (B : sB p l s m meth c args cX5_cut 6 RX5 D cy ad) (hr : meth.sig.returnType = (some .int)) (v1 : Int32) (v2 : Int32) (v3 : Int32) (v4 : Int32) (v5 : Int32) (vs1 : Int32) (σ : sM) (hf : b_X5_cut_62 v1 v2 v3 v4 v5 vs1 σ = some (r, σ')) : sGo p l e { frames := 3, cells := 0, slots := 0, locals := 68 } s m args below meth c D cy ad X 6 (sQ below args s 0 0 D cy ad (.inr (some (.int r))) X σ') σ 62 [(0, .ref (ad 44)), (1, .int v1), (2, .int v2), (3, .int v3), (4, .int v4), (5, .int v5)] [.int vs1, .ref (ad 44)] := by
  replace hf : (wthn (f_X5_refused vs1 σ) (fun vr11 σ11 => if vr11 = 0 then (chk (inb v1 4) (stl (va_up σ11 48 (upd (σ11 48) (v1).toNatClampNeg (vp_nar .boolean (1 : Int32)))) (fun σ14 => chk (inb v2 4) (chk (inb v1 4) (stl (va_up σ14 49 (upd (σ14 49) (v1).toNatClampNeg (σ14 49 (v2).toNatClampNeg))) (fun σ17 => if v3 = 0 then (chk (inb v1 4) (stl (va_up σ17 50 (upd (σ17 50) (v1).toNatClampNeg v4)) (fun σ20 => if v3 = 0 then (b_X5_cut_130 v1 v2 v3 v4 v5 v1 v5 σ20) else (chk (inb v2 4) (b_X5_cut_130 v1 v2 v3 v4 v5 v1 (σ20 52 (v2).toNatClampNeg) σ20))))) else (chk (inb v2 4) (chk (inb v1 4) (stl (va_up σ17 50 (upd (σ17 50) (v1).toNatClampNeg (σ17 50 (v2).toNatClampNeg))) (fun σ25 => if v3 = 0 then (b_X5_cut_130 v1 v2 v3 v4 v5 v1 v5 σ25) else (chk (inb v2 4) (b_X5_cut_130 v1 v2 v3 v4 v5 v1 (σ25 52 (v2).toNatClampNeg) σ25)))))))))))) else (some ((0 : Int32), σ11)))) = some (r, σ') := hf
  intro H locs ls h hl
  have hx := B.1
  have hb := B.2.1
  obtain ⟨vr11, σ11, hq11, hf⟩ := wthn_some hf
  refine sRetC1 (g_runV (k := 44) (T := TX5) (N := 21) B h (ok_X5_refused B.2.2.2.2.2.2.2.2 B.2.2.2.2.2.2.1 _ _ vs1 hq11) cw_X5_95 ⟨Nat.le_of_ble_eq_true rfl, Nat.le_of_ble_eq_true rfl⟩ (by decide) (M_row _) rfl rfl hl.1.symm rfl (Nat.le_of_ble_eq_true rfl) dX5_cut_62 ⟨Nat.zero_le _, Nat.zero_le _⟩) h (fun H locs h => ?_)
  refine lv_if_eq (tgt := 70) hx hb dX5_cut_65 (by decide) (fun c12 => ?_) (fun c12 => ?_)
  · rw [if_pos c12] at hf
    refine lv_aload_n hx hb dX5_cut_70 rfl (lv_at hl 0 rfl) ?_
    refine g_get B h 44 (by decide) (C := RX5) (T := TX5) (N := 21) (M_row _) rfl hin_X5 3 (by decide) hw832 rfl rfl dX5_cut_71 ?_
    refine lv_iload_n hx hb dX5_cut_74 rfl (lv_at hl 1 rfl) ?_
    refine lv_iconst (v := (1 : Int32)) hx hb dX5_cut_75 (by decide) ?_
    obtain ⟨c13, hf⟩ := chk_some hf
    refine g_zast B h 48 (by decide) (n := 4) (fun _ => rfl) (inb_in c13) dX5_cut_76 (fun H locs h => ?_)
    obtain ⟨σ14, e14, hf⟩ := stl_some hf
    rw [← e14] at h
    refine lv_aload_n hx hb dX5_cut_77 rfl (lv_at hl 0 rfl) ?_
    refine g_get B h 44 (by decide) (C := RX5) (T := TX5) (N := 21) (M_row _) rfl hin_X5 4 (by decide) hw833 rfl rfl dX5_cut_78 ?_
    refine lv_iload_n hx hb dX5_cut_81 rfl (lv_at hl 1 rfl) ?_
    refine lv_aload_n hx hb dX5_cut_82 rfl (lv_at hl 0 rfl) ?_
    refine g_get B h 44 (by decide) (C := RX5) (T := TX5) (N := 21) (M_row _) rfl hin_X5 4 (by decide) hw833 rfl rfl dX5_cut_83 ?_
    refine lv_iload_n hx hb dX5_cut_86 rfl (lv_at hl 2 rfl) ?_
    obtain ⟨c15, hf⟩ := chk_some hf
    refine g_iald B h 49 (by decide) (n := 4) (fun _ => rfl) (inb_in c15) dX5_cut_87 ?_
    obtain ⟨c16, hf⟩ := chk_some hf
    refine g_iast B h 49 (by decide) (n := 4) (fun _ => rfl) (inb_in c16) dX5_cut_88 (fun H locs h => ?_)
    obtain ⟨σ17, e17, hf⟩ := stl_some hf
    rw [← e17] at h
    refine lv_aload_n hx hb dX5_cut_89 rfl (lv_at hl 0 rfl) ?_
    refine g_get B h 44 (by decide) (C := RX5) (T := TX5) (N := 21) (M_row _) rfl hin_X5 5 (by decide) hw834 rfl rfl dX5_cut_90 ?_
    refine lv_iload_n hx hb dX5_cut_93 rfl (lv_at hl 1 rfl) ?_
    refine lv_iload_n hx hb dX5_cut_94 rfl (lv_at hl 3 rfl) ?_
    refine lv_if_eq (tgt := 107) hx hb dX5_cut_95 (by decide) (fun c18 => ?_) (fun c18 => ?_)
    · rw [if_pos c18] at hf
      refine lv_iload hx hb dX5_cut_107 (lv_at hl 4 rfl) ?_
      obtain ⟨c19, hf⟩ := chk_some hf
      refine g_iast B h 50 (by decide) (n := 4) (fun _ => rfl) (inb_in c19) dX5_cut_109 (fun H locs h => ?_)
      obtain ⟨σ20, e20, hf⟩ := stl_some hf
      rw [← e20] at h
      refine lv_aload_n hx hb dX5_cut_110 rfl (lv_at hl 0 rfl) ?_
      refine g_get B h 44 (by decide) (C := RX5) (T := TX5) (N := 21) (M_row _) rfl hin_X5 7 (by decide) hw836 rfl rfl dX5_cut_111 ?_
      refine lv_iload_n hx hb dX5_cut_114 rfl (lv_at hl 1 rfl) ?_
      refine lv_iload_n hx hb dX5_cut_115 rfl (lv_at hl 3 rfl) ?_
      refine lv_if_eq (tgt := 128) hx hb dX5_cut_116 (by decide) (fun c21 => ?_) (fun c21 => ?_)
      · rw [if_pos c21] at hf
        refine lv_iload hx hb dX5_cut_128 (lv_at hl 5 rfl) ?_
        exact k_X5_cut_130 B hr  _ _ _ _ _ _ _ _ hf _ _ _ h (lv_sub hl [0, 1, 2, 3, 4, 5] rfl)
      · rw [if_neg c21] at hf
        refine lv_aload_n hx hb dX5_cut_119 rfl (lv_at hl 0 rfl) ?_
        refine g_get B h 44 (by decide) (C := RX5) (T := TX5) (N := 21) (M_row _) rfl hin_X5 7 (by decide) hw836 rfl rfl dX5_cut_120 ?_
        refine lv_iload_n hx hb dX5_cut_123 rfl (lv_at hl 2 rfl) ?_
        obtain ⟨c22, hf⟩ := chk_some hf
        refine g_zald B h 52 (by decide) (n := 4) (fun _ => rfl) (inb_in c22) dX5_cut_124 ?_
        refine lv_goto (tgt := 130) hx hb dX5_cut_125 (by decide) ?_
        exact k_X5_cut_130 B hr  _ _ _ _ _ _ _ _ hf _ _ _ h (lv_sub hl [0, 1, 2, 3, 4, 5] rfl)
    · rw [if_neg c18] at hf
      refine lv_aload_n hx hb dX5_cut_98 rfl (lv_at hl 0 rfl) ?_
      refine g_get B h 44 (by decide) (C := RX5) (T := TX5) (N := 21) (M_row _) rfl hin_X5 5 (by decide) hw834 rfl rfl dX5_cut_99 ?_
      refine lv_iload_n hx hb dX5_cut_102 rfl (lv_at hl 2 rfl) ?_
      obtain ⟨c23, hf⟩ := chk_some hf
      refine g_iald B h 50 (by decide) (n := 4) (fun _ => rfl) (inb_in c23) dX5_cut_103 ?_
      refine lv_goto (tgt := 109) hx hb dX5_cut_104 (by decide) ?_
      obtain ⟨c24, hf⟩ := chk_some hf
      refine g_iast B h 50 (by decide) (n := 4) (fun _ => rfl) (inb_in c24) dX5_cut_109 (fun H locs h => ?_)
      obtain ⟨σ25, e25, hf⟩ := stl_some hf
      rw [← e25] at h
      refine lv_aload_n hx hb dX5_cut_110 rfl (lv_at hl 0 rfl) ?_
      refine g_get B h 44 (by decide) (C := RX5) (T := TX5) (N := 21) (M_row _) rfl hin_X5 7 (by decide) hw836 rfl rfl dX5_cut_111 ?_
      refine lv_iload_n hx hb dX5_cut_114 rfl (lv_at hl 1 rfl) ?_
      refine lv_iload_n hx hb dX5_cut_115 rfl (lv_at hl 3 rfl) ?_
      refine lv_if_eq (tgt := 128) hx hb dX5_cut_116 (by decide) (fun c26 => ?_) (fun c26 => ?_)
      · rw [if_pos c26] at hf
        refine lv_iload hx hb dX5_cut_128 (lv_at hl 5 rfl) ?_
        exact k_X5_cut_130 B hr  _ _ _ _ _ _ _ _ hf _ _ _ h (lv_sub hl [0, 1, 2, 3, 4, 5] rfl)
      · rw [if_neg c26] at hf
        refine lv_aload_n hx hb dX5_cut_119 rfl (lv_at hl 0 rfl) ?_
        refine g_get B h 44 (by decide) (C := RX5) (T := TX5) (N := 21) (M_row _) rfl hin_X5 7 (by decide) hw836 rfl rfl dX5_cut_120 ?_
        refine lv_iload_n hx hb dX5_cut_123 rfl (lv_at hl 2 rfl) ?_
        obtain ⟨c27, hf⟩ := chk_some hf
        refine g_zald B h 52 (by decide) (n := 4) (fun _ => rfl) (inb_in c27) dX5_cut_124 ?_
        refine lv_goto (tgt := 130) hx hb dX5_cut_125 (by decide) ?_
        exact k_X5_cut_130 B hr  _ _ _ _ _ _ _ _ hf _ _ _ h (lv_sub hl [0, 1, 2, 3, 4, 5] rfl)
  · rw [if_neg c12] at hf
    refine lv_iconst (v := (0 : Int32)) hx hb dX5_cut_68 (by decide) ?_
    cases hf
    exact sE_i B hr h dX5_cut_69
set_option maxHeartbeats 4000000 in
set_option maxRecDepth 100000 in
theorem k_X5_cut_0 {p : Program} {l : Launch} {e : Env} {s : State} {m : MethodId} {args : Array Value} {below : List Frame} {meth : Method} {c : Code} {D : va_G} {cy : Nat → ClassId} {ad : Nat → Nat} {X : sX} {r : Int32} {σ' : sM} (B : sB p l s m meth c args cX5_cut 6 RX5 D cy ad) (hr : meth.sig.returnType = (some .int)) (v1 : Int32) (v2 : Int32) (v3 : Int32) (v4 : Int32) (v5 : Int32) (σ : sM) (hf : f_X5_cut v1 v2 v3 v4 v5 σ = some (r, σ')) : sGo p l e { frames := 3, cells := 0, slots := 0, locals := 68 } s m args below meth c D cy ad X 6 (sQ below args s 0 0 D cy ad (.inr (some (.int r))) X σ') σ 0 [(0, .ref (ad 44)), (1, .int v1), (2, .int v2), (3, .int v3), (4, .int v4), (5, .int v5)] [] := by
  replace hf : (rthn (f_X5_isView v1 σ) (fun vr1 => if vr1 = 0 then (b_X5_cut_62 v1 v2 v3 v4 v5 (1 : Int32) σ) else (rthn (f_X5_isView v2 σ) (fun vr3 => if vr3 = 0 then (b_X5_cut_62 v1 v2 v3 v4 v5 (1 : Int32) σ) else (chk (inb v2 4) (if (σ 48 (v2).toNatClampNeg) = 0 then (b_X5_cut_62 v1 v2 v3 v4 v5 (2 : Int32) σ) else (rthn (f_X5_isIn v2 v4 σ) (fun vr7 => if vr7 = 0 then (b_X5_cut_62 v1 v2 v3 v4 v5 (3 : Int32) σ) else (chk (inb v2 4) (if (σ 54 (v2).toNatClampNeg) = (12 : Int32) then (b_X5_cut_62 v1 v2 v3 v4 v5 (4 : Int32) σ) else (b_X5_cut_62 v1 v2 v3 v4 v5 (0 : Int32) σ))))))))))) = some (r, σ') := hf
  intro H locs ls h hl
  have hx := B.1
  have hb := B.2.1
  refine lv_aload_n hx hb dX5_cut_0 rfl (lv_at hl 0 rfl) ?_
  refine lv_iload_n hx hb dX5_cut_1 rfl (lv_at hl 1 rfl) ?_
  obtain ⟨vr1, hq1, hf⟩ := rthn_some hf
  refine sRetC1 (g_runS B h (ok_X5_isView B.2.2.2.2.2.2.2.2 B.2.2.2.2.2.2.1 _ _ v1 hq1) cw_X5_126 ⟨Nat.le_of_ble_eq_true rfl, Nat.le_of_ble_eq_true rfl⟩ rfl hl.1.symm rfl (Nat.le_of_ble_eq_true rfl) dX5_cut_2 ⟨Nat.zero_le _, Nat.zero_le _⟩) h (fun H locs h => ?_)
  refine lv_if_eq (tgt := 15) hx hb dX5_cut_5 (by decide) (fun c2 => ?_) (fun c2 => ?_)
  · rw [if_pos c2] at hf
    refine lv_iconst (v := (1 : Int32)) hx hb dX5_cut_15 (by decide) ?_
    refine lv_goto (tgt := 62) hx hb dX5_cut_16 (by decide) ?_
    exact k_X5_cut_62 B hr  _ _ _ _ _ _ _ hf _ _ _ h (lv_sub hl [0, 1, 2, 3, 4, 5] rfl)
  · rw [if_neg c2] at hf
    refine lv_iload_n hx hb dX5_cut_8 rfl (lv_at hl 2 rfl) ?_
    obtain ⟨vr3, hq3, hf⟩ := rthn_some hf
    refine sRetC1 (g_runS B h (ok_X5_isView B.2.2.2.2.2.2.2.2 B.2.2.2.2.2.2.1 _ _ v2 hq3) cw_X5_126 ⟨Nat.le_of_ble_eq_true rfl, Nat.le_of_ble_eq_true rfl⟩ rfl hl.1.symm rfl (Nat.le_of_ble_eq_true rfl) dX5_cut_9 ⟨Nat.zero_le _, Nat.zero_le _⟩) h (fun H locs h => ?_)
    refine lv_if_ne (tgt := 19) hx hb dX5_cut_12 (by decide) (fun c4 => ?_) (fun c4 => ?_)
    · rw [if_neg c4] at hf
      refine lv_aload_n hx hb dX5_cut_19 rfl (lv_at hl 0 rfl) ?_
      refine g_get B h 44 (by decide) (C := RX5) (T := TX5) (N := 21) (M_row _) rfl hin_X5 3 (by decide) hw832 rfl rfl dX5_cut_20 ?_
      refine lv_iload_n hx hb dX5_cut_23 rfl (lv_at hl 2 rfl) ?_
      obtain ⟨c5, hf⟩ := chk_some hf
      refine g_zald B h 48 (by decide) (n := 4) (fun _ => rfl) (inb_in c5) dX5_cut_24 ?_
      refine lv_if_ne (tgt := 32) hx hb dX5_cut_25 (by decide) (fun c6 => ?_) (fun c6 => ?_)
      · rw [if_neg c6] at hf
        refine lv_aload_n hx hb dX5_cut_32 rfl (lv_at hl 0 rfl) ?_
        refine lv_iload_n hx hb dX5_cut_33 rfl (lv_at hl 2 rfl) ?_
        refine lv_iload hx hb dX5_cut_34 (lv_at hl 4 rfl) ?_
        obtain ⟨vr7, hq7, hf⟩ := rthn_some hf
        refine sRetC1 (g_runV (k := 44) (T := TX5) (N := 21) B h (ok_X5_isIn B.2.2.2.2.2.2.2.2 B.2.2.2.2.2.2.1 _ _ v2 v4 hq7) cw_X5_120 ⟨Nat.le_of_ble_eq_true rfl, Nat.le_of_ble_eq_true rfl⟩ (by decide) (M_row _) rfl rfl hl.1.symm rfl (Nat.le_of_ble_eq_true rfl) dX5_cut_36 ⟨Nat.zero_le _, Nat.zero_le _⟩) h (fun H locs h => ?_)
        refine lv_if_ne (tgt := 46) hx hb dX5_cut_39 (by decide) (fun c8 => ?_) (fun c8 => ?_)
        · rw [if_neg c8] at hf
          refine lv_aload_n hx hb dX5_cut_46 rfl (lv_at hl 0 rfl) ?_
          refine g_get B h 44 (by decide) (C := RX5) (T := TX5) (N := 21) (M_row _) rfl hin_X5 9 (by decide) hw838 rfl rfl dX5_cut_47 ?_
          refine lv_iload_n hx hb dX5_cut_50 rfl (lv_at hl 2 rfl) ?_
          obtain ⟨c9, hf⟩ := chk_some hf
          refine g_iald B h 54 (by decide) (n := 4) (fun _ => rfl) (inb_in c9) dX5_cut_51 ?_
          refine lv_bipush (v := (12 : Int32)) hx hb dX5_cut_52 (by decide) ?_
          refine lv_icmp_ne (tgt := 61) hx hb dX5_cut_54 (by decide) (fun c10 => ?_) (fun c10 => ?_)
          · rw [if_neg c10] at hf
            refine lv_iconst (v := (0 : Int32)) hx hb dX5_cut_61 (by decide) ?_
            exact k_X5_cut_62 B hr  _ _ _ _ _ _ _ hf _ _ _ h (lv_sub hl [0, 1, 2, 3, 4, 5] rfl)
          · rw [if_pos c10] at hf
            refine lv_iconst (v := (4 : Int32)) hx hb dX5_cut_57 (by decide) ?_
            refine lv_goto (tgt := 62) hx hb dX5_cut_58 (by decide) ?_
            exact k_X5_cut_62 B hr  _ _ _ _ _ _ _ hf _ _ _ h (lv_sub hl [0, 1, 2, 3, 4, 5] rfl)
        · rw [if_pos c8] at hf
          refine lv_iconst (v := (3 : Int32)) hx hb dX5_cut_42 (by decide) ?_
          refine lv_goto (tgt := 62) hx hb dX5_cut_43 (by decide) ?_
          exact k_X5_cut_62 B hr  _ _ _ _ _ _ _ hf _ _ _ h (lv_sub hl [0, 1, 2, 3, 4, 5] rfl)
      · rw [if_pos c6] at hf
        refine lv_iconst (v := (2 : Int32)) hx hb dX5_cut_28 (by decide) ?_
        refine lv_goto (tgt := 62) hx hb dX5_cut_29 (by decide) ?_
        exact k_X5_cut_62 B hr  _ _ _ _ _ _ _ hf _ _ _ h (lv_sub hl [0, 1, 2, 3, 4, 5] rfl)
    · rw [if_pos c4] at hf
      refine lv_iconst (v := (1 : Int32)) hx hb dX5_cut_15 (by decide) ?_
      refine lv_goto (tgt := 62) hx hb dX5_cut_16 (by decide) ?_
      exact k_X5_cut_62 B hr  _ _ _ _ _ _ _ hf _ _ _ h (lv_sub hl [0, 1, 2, 3, 4, 5] rfl)
set_option maxRecDepth 100000 in
theorem ok_X5_cut {l : Launch} (hl0 : l.stackTraces = false) {D : va_G} {cy : Nat → ClassId} {ad : Nat → Nat} (hap : sAp ad) (X : sX) (σ : sM) (v1 : Int32) (v2 : Int32) (v3 : Int32) (v4 : Int32) (v5 : Int32) {r : Int32} {σ' : sM} (hf : f_X5_cut v1 v2 v3 v4 v5 σ = some (r, σ')) : sMet l yX5_cut (sWs yX5_cut cX5_cut 6 (some .int)) 3 68 0 0 D cy ad X σ [.ref (ad 44), .int v1, .int v2, .int v3, .int v4, .int v5] (.inr (some (.int r))) X σ' := by
  refine sMet_of (by decide +kernel) (Nat.le_of_ble_eq_true rfl) hap hl0 ?_
  intro p e s m args below meth c ls B hr htab hl h
  exact k_X5_cut_0 B hr _ _ _ _ _ _  hf _ _ _ h hl
set_option maxHeartbeats 4000000 in
set_option maxRecDepth 100000 in
theorem k_X5_takes_12 {p : Program} {l : Launch} {e : Env} {s : State} {m : MethodId} {args : Array Value} {below : List Frame} {meth : Method} {c : Code} {D : va_G} {cy : Nat → ClassId} {ad : Nat → Nat} {X : sX} {r : Unit} {σ' : sM} (B : sB p l s m meth c args cX5_takes 4 RX5 D cy ad) (hr : meth.sig.returnType = none) : ∀ (n : Nat) (v1 : Int32) (v3 : Int32) (σ : sM), b_X5_takes_12 n v1 v3 σ = some (r, σ') → sGo p l e { frames := 0, cells := 0, slots := 0, locals := 0 } s m args below meth c D cy ad X 4 (sQ below args s 0 0 D cy ad (.inr none) X σ') σ 12 [(0, .ref (ad 44)), (1, .int v1), (3, .int v3)] [] := by
  intro n
  induction n with
  | zero =>
    intro v1 v3 σ hf
    exact nomatch (show none = some (r, σ') from hf)
  | succ n ih =>
    intro v1 v3 σ hf
    replace hf : (chk (inb v1 3) (if (σ 47 (v1).toNatClampNeg) ≤ v3 then (some ((), σ)) else (chk (inb ((((60 : Int32) * v1) + v3) + (1 : Int32)) 180) (chk (inb (((60 : Int32) * v1) + v3) 180) (stl (va_up σ 45 (upd (σ 45) ((((60 : Int32) * v1) + v3)).toNatClampNeg (σ 45 (((((60 : Int32) * v1) + v3) + (1 : Int32))).toNatClampNeg))) (fun σ8 => chk (inb ((((60 : Int32) * v1) + v3) + (1 : Int32)) 180) (chk (inb (((60 : Int32) * v1) + v3) 180) (stl (va_up σ8 46 (upd (σ8 46) ((((60 : Int32) * v1) + v3)).toNatClampNeg (σ8 46 (((((60 : Int32) * v1) + v3) + (1 : Int32))).toNatClampNeg))) (fun σ11 => b_X5_takes_12 n v1 (v3 + 1) σ11))))))))) = some (r, σ') := hf
    intro H locs ls h hl
    have hx := B.1
    have hb := B.2.1
    refine lv_iload_n hx hb dX5_takes_12 rfl (lv_at hl 2 rfl) ?_
    refine lv_aload_n hx hb dX5_takes_13 rfl (lv_at hl 0 rfl) ?_
    refine g_get B h 44 (by decide) (C := RX5) (T := TX5) (N := 21) (M_row _) rfl hin_X5 2 (by decide) hw831 rfl rfl dX5_takes_14 ?_
    refine lv_iload_n hx hb dX5_takes_17 rfl (lv_at hl 1 rfl) ?_
    obtain ⟨c4, hf⟩ := chk_some hf
    refine g_iald B h 47 (by decide) (n := 3) (fun _ => rfl) (inb_in c4) dX5_takes_18 ?_
    refine lv_icmp_ge (tgt := 76) hx hb dX5_takes_19 (by decide) (fun c5 => ?_) (fun c5 => ?_)
    · rw [if_pos c5] at hf
      cases hf
      exact sE_v B hr h dX5_takes_76
    · rw [if_neg c5] at hf
      refine lv_aload_n hx hb dX5_takes_22 rfl (lv_at hl 0 rfl) ?_
      refine g_get B h 44 (by decide) (C := RX5) (T := TX5) (N := 21) (M_row _) rfl hin_X5 0 (by decide) hw829 rfl rfl dX5_takes_23 ?_
      refine lv_bipush (v := (60 : Int32)) hx hb dX5_takes_26 (by decide) ?_
      refine lv_iload_n hx hb dX5_takes_28 rfl (lv_at hl 1 rfl) ?_
      refine lv_imul hx hb dX5_takes_29 ?_
      refine lv_iload_n hx hb dX5_takes_30 rfl (lv_at hl 2 rfl) ?_
      refine lv_iadd hx hb dX5_takes_31 ?_
      refine lv_aload_n hx hb dX5_takes_32 rfl (lv_at hl 0 rfl) ?_
      refine g_get B h 44 (by decide) (C := RX5) (T := TX5) (N := 21) (M_row _) rfl hin_X5 0 (by decide) hw829 rfl rfl dX5_takes_33 ?_
      refine lv_bipush (v := (60 : Int32)) hx hb dX5_takes_36 (by decide) ?_
      refine lv_iload_n hx hb dX5_takes_38 rfl (lv_at hl 1 rfl) ?_
      refine lv_imul hx hb dX5_takes_39 ?_
      refine lv_iload_n hx hb dX5_takes_40 rfl (lv_at hl 2 rfl) ?_
      refine lv_iadd hx hb dX5_takes_41 ?_
      refine lv_iconst (v := (1 : Int32)) hx hb dX5_takes_42 (by decide) ?_
      refine lv_iadd hx hb dX5_takes_43 ?_
      obtain ⟨c6, hf⟩ := chk_some hf
      refine g_iald B h 45 (by decide) (n := 180) (fun _ => rfl) (inb_in c6) dX5_takes_44 ?_
      obtain ⟨c7, hf⟩ := chk_some hf
      refine g_iast B h 45 (by decide) (n := 180) (fun _ => rfl) (inb_in c7) dX5_takes_45 (fun H locs h => ?_)
      obtain ⟨σ8, e8, hf⟩ := stl_some hf
      rw [← e8] at h
      refine lv_aload_n hx hb dX5_takes_46 rfl (lv_at hl 0 rfl) ?_
      refine g_get B h 44 (by decide) (C := RX5) (T := TX5) (N := 21) (M_row _) rfl hin_X5 1 (by decide) hw830 rfl rfl dX5_takes_47 ?_
      refine lv_bipush (v := (60 : Int32)) hx hb dX5_takes_50 (by decide) ?_
      refine lv_iload_n hx hb dX5_takes_52 rfl (lv_at hl 1 rfl) ?_
      refine lv_imul hx hb dX5_takes_53 ?_
      refine lv_iload_n hx hb dX5_takes_54 rfl (lv_at hl 2 rfl) ?_
      refine lv_iadd hx hb dX5_takes_55 ?_
      refine lv_aload_n hx hb dX5_takes_56 rfl (lv_at hl 0 rfl) ?_
      refine g_get B h 44 (by decide) (C := RX5) (T := TX5) (N := 21) (M_row _) rfl hin_X5 1 (by decide) hw830 rfl rfl dX5_takes_57 ?_
      refine lv_bipush (v := (60 : Int32)) hx hb dX5_takes_60 (by decide) ?_
      refine lv_iload_n hx hb dX5_takes_62 rfl (lv_at hl 1 rfl) ?_
      refine lv_imul hx hb dX5_takes_63 ?_
      refine lv_iload_n hx hb dX5_takes_64 rfl (lv_at hl 2 rfl) ?_
      refine lv_iadd hx hb dX5_takes_65 ?_
      refine lv_iconst (v := (1 : Int32)) hx hb dX5_takes_66 (by decide) ?_
      refine lv_iadd hx hb dX5_takes_67 ?_
      obtain ⟨c9, hf⟩ := chk_some hf
      refine g_iald B h 46 (by decide) (n := 180) (fun _ => rfl) (inb_in c9) dX5_takes_68 ?_
      obtain ⟨c10, hf⟩ := chk_some hf
      refine g_iast B h 46 (by decide) (n := 180) (fun _ => rfl) (inb_in c10) dX5_takes_69 (fun H locs h => ?_)
      obtain ⟨σ11, e11, hf⟩ := stl_some hf
      rw [← e11] at h
      refine lv_iinc (v := (v3 + 1)) (lv' := [(3, .int (v3 + 1)), (0, .ref (ad 44)), (1, .int v1)]) hx hb dX5_takes_70 hl (k := 2) rfl rfl (by decide) rfl (fun ls hl => ?_)
      refine lv_goto (tgt := 12) hx hb dX5_takes_73 (by decide) ?_
      exact ih _ _ _ hf _ _ _ h (lv_sub hl [1, 2, 0] rfl)
set_option maxHeartbeats 4000000 in
set_option maxRecDepth 100000 in
theorem k_X5_takes_0 {p : Program} {l : Launch} {e : Env} {s : State} {m : MethodId} {args : Array Value} {below : List Frame} {meth : Method} {c : Code} {D : va_G} {cy : Nat → ClassId} {ad : Nat → Nat} {X : sX} {r : Unit} {σ' : sM} (B : sB p l s m meth c args cX5_takes 4 RX5 D cy ad) (hr : meth.sig.returnType = none) (v1 : Int32) (v2 : Int32) (σ : sM) (hf : f_X5_takes v1 v2 σ = some (r, σ')) : sGo p l e { frames := 0, cells := 0, slots := 0, locals := 0 } s m args below meth c D cy ad X 4 (sQ below args s 0 0 D cy ad (.inr none) X σ') σ 0 [(0, .ref (ad 44)), (1, .int v1), (2, .int v2)] [] := by
  replace hf : (chk (inb v1 3) (chk (inb v1 3) (stl (va_up σ 47 (upd (σ 47) (v1).toNatClampNeg ((σ 47 (v1).toNatClampNeg) - (1 : Int32)))) (fun σ3 => b_X5_takes_12 FU v1 v2 σ3)))) = some (r, σ') := hf
  intro H locs ls h hl
  have hx := B.1
  have hb := B.2.1
  refine lv_aload_n hx hb dX5_takes_0 rfl (lv_at hl 0 rfl) ?_
  refine g_get B h 44 (by decide) (C := RX5) (T := TX5) (N := 21) (M_row _) rfl hin_X5 2 (by decide) hw831 rfl rfl dX5_takes_1 ?_
  refine lv_iload_n hx hb dX5_takes_4 rfl (lv_at hl 1 rfl) ?_
  refine lv_dup2_11 hx hb dX5_takes_5 rfl rfl ?_
  obtain ⟨c1, hf⟩ := chk_some hf
  refine g_iald B h 47 (by decide) (n := 3) (fun _ => rfl) (inb_in c1) dX5_takes_6 ?_
  refine lv_iconst (v := (1 : Int32)) hx hb dX5_takes_7 (by decide) ?_
  refine lv_isub hx hb dX5_takes_8 ?_
  obtain ⟨c2, hf⟩ := chk_some hf
  refine g_iast B h 47 (by decide) (n := 3) (fun _ => rfl) (inb_in c2) dX5_takes_9 (fun H locs h => ?_)
  obtain ⟨σ3, e3, hf⟩ := stl_some hf
  rw [← e3] at h
  refine lv_iload_n hx hb dX5_takes_10 rfl (lv_at hl 2 rfl) ?_
  refine lv_istore_n (lv' := [(3, .int v2), (0, .ref (ad 44)), (1, .int v1), (2, .int v2)]) hx hb dX5_takes_11 rfl hl (by decide) rfl (fun ls hl => ?_)
  exact k_X5_takes_12 B hr  _ _ _ _ hf _ _ _ h (lv_sub hl [1, 2, 0] rfl)
set_option maxRecDepth 100000 in
theorem ok_X5_takes {l : Launch} (hl0 : l.stackTraces = false) {D : va_G} {cy : Nat → ClassId} {ad : Nat → Nat} (hap : sAp ad) (X : sX) (σ : sM) (v1 : Int32) (v2 : Int32) {r : Unit} {σ' : sM} (hf : f_X5_takes v1 v2 σ = some (r, σ')) : sMet l yX5_takes (sWs yX5_takes cX5_takes 4 none) 0 0 0 0 D cy ad X σ [.ref (ad 44), .int v1, .int v2] (.inr none) X σ' := by
  refine sMet_of (by decide +kernel) (Nat.le_of_ble_eq_true rfl) hap hl0 ?_
  intro p e s m args below meth c ls B hr htab hl h
  exact k_X5_takes_0 B hr _ _ _  hf _ _ _ h hl
set_option maxHeartbeats 4000000 in
set_option maxRecDepth 100000 in
theorem k_X5_does_132 {p : Program} {l : Launch} {e : Env} {s : State} {m : MethodId} {args : Array Value} {below : List Frame} {meth : Method} {c : Code} {D : va_G} {cy : Nat → ClassId} {ad : Nat → Nat} {X : sX} {r : Int32} {σ' : sM} (B : sB p l s m meth c args cX5_does 9 RX5 D cy ad) (hr : meth.sig.returnType = (some .boolean)) (v1 : Int32) (v3 : Int32) (v6 : Int32) (v7 : Int32) (vs0 : Int32) (σ : sM) (hf : b_X5_does_132 v1 v3 v6 v7 vs0 σ = some (r, σ')) : sGo p l e { frames := 2, cells := 0, slots := 0, locals := 48 } s m args below meth c D cy ad X 9 (sQ below args s 0 0 D cy ad (.inr (some (.int r))) X σ') σ 132 [(0, .ref (ad 44)), (1, .int v1), (3, .int v3), (6, .int v6), (7, .int v7)] [.int vs0] := by
  replace hf : (wthn (f_X5_puts v1 v3 vs0 σ) (fun _ σ22 => if v6 = 0 then (some ((1 : Int32), σ22)) else (if vs0 = v7 then (some ((0 : Int32), σ22)) else (some ((1 : Int32), σ22))))) = some (r, σ') := hf
  intro H locs ls h hl
  have hx := B.1
  have hb := B.2.1
  refine lv_istore (lv' := [(8, .int vs0), (0, .ref (ad 44)), (1, .int v1), (3, .int v3), (6, .int v6), (7, .int v7)]) hx hb dX5_does_132 hl (by decide) rfl (fun ls hl => ?_)
  refine lv_aload_n hx hb dX5_does_134 rfl (lv_at hl 1 rfl) ?_
  refine lv_iload_n hx hb dX5_does_135 rfl (lv_at hl 2 rfl) ?_
  refine lv_iload_n hx hb dX5_does_136 rfl (lv_at hl 3 rfl) ?_
  refine lv_iload hx hb dX5_does_137 (lv_at hl 0 rfl) ?_
  obtain ⟨vr22, σ22, hq22, hf⟩ := wthn_some hf
  refine sRetC0 (g_runV (k := 44) (T := TX5) (N := 21) B h (ok_X5_puts B.2.2.2.2.2.2.2.2 B.2.2.2.2.2.2.1 _ _ v1 v3 vs0 hq22) cw_X5_98 ⟨Nat.le_of_ble_eq_true rfl, Nat.le_of_ble_eq_true rfl⟩ (by decide) (M_row _) rfl rfl hl.1.symm rfl (Nat.le_of_ble_eq_true rfl) dX5_does_139 ⟨Nat.zero_le _, Nat.zero_le _⟩) h (fun H locs h => ?_)
  refine lv_iload hx hb dX5_does_142 (lv_at hl 4 rfl) ?_
  refine lv_if_eq (tgt := 154) hx hb dX5_does_144 (by decide) (fun c23 => ?_) (fun c23 => ?_)
  · rw [if_pos c23] at hf
    refine lv_iconst (v := (1 : Int32)) hx hb dX5_does_154 (by decide) ?_
    refine lv_goto (tgt := 159) hx hb dX5_does_155 (by decide) ?_
    cases hf
    exact sE_z B hr h rfl dX5_does_159
  · rw [if_neg c23] at hf
    refine lv_iload hx hb dX5_does_147 (lv_at hl 0 rfl) ?_
    refine lv_iload hx hb dX5_does_149 (lv_at hl 5 rfl) ?_
    refine lv_icmp_eq (tgt := 158) hx hb dX5_does_151 (by decide) (fun c24 => ?_) (fun c24 => ?_)
    · rw [if_pos c24] at hf
      refine lv_iconst (v := (0 : Int32)) hx hb dX5_does_158 (by decide) ?_
      cases hf
      exact sE_z B hr h rfl dX5_does_159
    · rw [if_neg c24] at hf
      refine lv_iconst (v := (1 : Int32)) hx hb dX5_does_154 (by decide) ?_
      refine lv_goto (tgt := 159) hx hb dX5_does_155 (by decide) ?_
      cases hf
      exact sE_z B hr h rfl dX5_does_159
set_option maxHeartbeats 4000000 in
set_option maxRecDepth 100000 in
theorem k_X5_does_96 {p : Program} {l : Launch} {e : Env} {s : State} {m : MethodId} {args : Array Value} {below : List Frame} {meth : Method} {c : Code} {D : va_G} {cy : Nat → ClassId} {ad : Nat → Nat} {X : sX} {r : Int32} {σ' : sM} (B : sB p l s m meth c args cX5_does 9 RX5 D cy ad) (hr : meth.sig.returnType = (some .boolean)) (v1 : Int32) (v3 : Int32) (v4 : Int32) (v5 : Int32) (v6 : Int32) (v7 : Int32) (σ : sM) (hf : b_X5_does_96 v1 v3 v4 v5 v6 v7 σ = some (r, σ')) : sGo p l e { frames := 2, cells := 0, slots := 0, locals := 48 } s m args below meth c D cy ad X 9 (sQ below args s 0 0 D cy ad (.inr (some (.int r))) X σ') σ 96 [(0, .ref (ad 44)), (1, .int v1), (3, .int v3), (4, .int v4), (5, .int v5), (6, .int v6), (7, .int v7)] [] := by
  replace hf : (if v5 = (120 : Int32) then (if v6 = 0 then (some ((0 : Int32), σ)) else (if v5 = (115 : Int32) then (if v6 = 0 then (b_X5_does_132 v1 v3 v6 v7 v4 σ) else (b_X5_does_132 v1 v3 v6 v7 (v7 + v4) σ)) else (b_X5_does_132 v1 v3 v6 v7 v4 σ))) else (if v5 = (115 : Int32) then (if v6 = 0 then (b_X5_does_132 v1 v3 v6 v7 v4 σ) else (b_X5_does_132 v1 v3 v6 v7 (v7 + v4) σ)) else (b_X5_does_132 v1 v3 v6 v7 v4 σ))) = some (r, σ') := hf
  intro H locs ls h hl
  have hx := B.1
  have hb := B.2.1
  refine lv_iload hx hb dX5_does_96 (lv_at hl 4 rfl) ?_
  refine lv_bipush (v := (120 : Int32)) hx hb dX5_does_98 (by decide) ?_
  refine lv_icmp_ne (tgt := 110) hx hb dX5_does_100 (by decide) (fun c16 => ?_) (fun c16 => ?_)
  · rw [if_neg c16] at hf
    refine lv_iload hx hb dX5_does_110 (lv_at hl 4 rfl) ?_
    refine lv_bipush (v := (115 : Int32)) hx hb dX5_does_112 (by decide) ?_
    refine lv_icmp_ne (tgt := 130) hx hb dX5_does_114 (by decide) (fun c17 => ?_) (fun c17 => ?_)
    · rw [if_neg c17] at hf
      refine lv_iload hx hb dX5_does_130 (lv_at hl 3 rfl) ?_
      exact k_X5_does_132 B hr  _ _ _ _ _ _ hf _ _ _ h (lv_sub hl [0, 1, 2, 5, 6] rfl)
    · rw [if_pos c17] at hf
      refine lv_iload hx hb dX5_does_117 (lv_at hl 5 rfl) ?_
      refine lv_if_eq (tgt := 130) hx hb dX5_does_119 (by decide) (fun c18 => ?_) (fun c18 => ?_)
      · rw [if_pos c18] at hf
        refine lv_iload hx hb dX5_does_130 (lv_at hl 3 rfl) ?_
        exact k_X5_does_132 B hr  _ _ _ _ _ _ hf _ _ _ h (lv_sub hl [0, 1, 2, 5, 6] rfl)
      · rw [if_neg c18] at hf
        refine lv_iload hx hb dX5_does_122 (lv_at hl 6 rfl) ?_
        refine lv_iload hx hb dX5_does_124 (lv_at hl 3 rfl) ?_
        refine lv_iadd hx hb dX5_does_126 ?_
        refine lv_goto (tgt := 132) hx hb dX5_does_127 (by decide) ?_
        exact k_X5_does_132 B hr  _ _ _ _ _ _ hf _ _ _ h (lv_sub hl [0, 1, 2, 5, 6] rfl)
  · rw [if_pos c16] at hf
    refine lv_iload hx hb dX5_does_103 (lv_at hl 5 rfl) ?_
    refine lv_if_ne (tgt := 110) hx hb dX5_does_105 (by decide) (fun c19 => ?_) (fun c19 => ?_)
    · rw [if_neg c19] at hf
      refine lv_iload hx hb dX5_does_110 (lv_at hl 4 rfl) ?_
      refine lv_bipush (v := (115 : Int32)) hx hb dX5_does_112 (by decide) ?_
      refine lv_icmp_ne (tgt := 130) hx hb dX5_does_114 (by decide) (fun c20 => ?_) (fun c20 => ?_)
      · rw [if_neg c20] at hf
        refine lv_iload hx hb dX5_does_130 (lv_at hl 3 rfl) ?_
        exact k_X5_does_132 B hr  _ _ _ _ _ _ hf _ _ _ h (lv_sub hl [0, 1, 2, 5, 6] rfl)
      · rw [if_pos c20] at hf
        refine lv_iload hx hb dX5_does_117 (lv_at hl 5 rfl) ?_
        refine lv_if_eq (tgt := 130) hx hb dX5_does_119 (by decide) (fun c21 => ?_) (fun c21 => ?_)
        · rw [if_pos c21] at hf
          refine lv_iload hx hb dX5_does_130 (lv_at hl 3 rfl) ?_
          exact k_X5_does_132 B hr  _ _ _ _ _ _ hf _ _ _ h (lv_sub hl [0, 1, 2, 5, 6] rfl)
        · rw [if_neg c21] at hf
          refine lv_iload hx hb dX5_does_122 (lv_at hl 6 rfl) ?_
          refine lv_iload hx hb dX5_does_124 (lv_at hl 3 rfl) ?_
          refine lv_iadd hx hb dX5_does_126 ?_
          refine lv_goto (tgt := 132) hx hb dX5_does_127 (by decide) ?_
          exact k_X5_does_132 B hr  _ _ _ _ _ _ hf _ _ _ h (lv_sub hl [0, 1, 2, 5, 6] rfl)
    · rw [if_pos c19] at hf
      refine lv_iconst (v := (0 : Int32)) hx hb dX5_does_108 (by decide) ?_
      cases hf
      exact sE_z B hr h rfl dX5_does_109
set_option maxHeartbeats 4000000 in
set_option maxRecDepth 100000 in
theorem k_X5_does_56 {p : Program} {l : Launch} {e : Env} {s : State} {m : MethodId} {args : Array Value} {below : List Frame} {meth : Method} {c : Code} {D : va_G} {cy : Nat → ClassId} {ad : Nat → Nat} {X : sX} {r : Int32} {σ' : sM} (B : sB p l s m meth c args cX5_does 9 RX5 D cy ad) (hr : meth.sig.returnType = (some .boolean)) (v1 : Int32) (v3 : Int32) (v4 : Int32) (v5 : Int32) (v6 : Int32) (vs0 : Int32) (σ : sM) (hf : b_X5_does_56 v1 v3 v4 v5 v6 vs0 σ = some (r, σ')) : sGo p l e { frames := 2, cells := 0, slots := 0, locals := 48 } s m args below meth c D cy ad X 9 (sQ below args s 0 0 D cy ad (.inr (some (.int r))) X σ') σ 56 [(0, .ref (ad 44)), (1, .int v1), (3, .int v3), (4, .int v4), (5, .int v5), (6, .int v6)] [.int vs0] := by
  replace hf : (if v5 = (114 : Int32) then (if v6 = 0 then (chk (isb v6) (some (v6, σ))) else (rthn (f_X5_placeOf v1 v3 σ) (fun vr13 => wthn (f_X5_takes v1 vr13 σ) (fun _ σ14 => chk (isb v6) (some (v6, σ14)))))) else (if v5 = (97 : Int32) then (if v6 = 0 then (b_X5_does_96 v1 v3 v4 v5 v6 vs0 σ) else (some ((0 : Int32), σ))) else (b_X5_does_96 v1 v3 v4 v5 v6 vs0 σ))) = some (r, σ') := hf
  intro H locs ls h hl
  have hx := B.1
  have hb := B.2.1
  refine lv_istore (lv' := [(7, .int vs0), (0, .ref (ad 44)), (1, .int v1), (3, .int v3), (4, .int v4), (5, .int v5), (6, .int v6)]) hx hb dX5_does_56 hl (by decide) rfl (fun ls hl => ?_)
  refine lv_iload hx hb dX5_does_58 (lv_at hl 5 rfl) ?_
  refine lv_bipush (v := (114 : Int32)) hx hb dX5_does_60 (by decide) ?_
  refine lv_icmp_ne (tgt := 84) hx hb dX5_does_62 (by decide) (fun c8 => ?_) (fun c8 => ?_)
  · rw [if_neg c8] at hf
    refine lv_iload hx hb dX5_does_84 (lv_at hl 5 rfl) ?_
    refine lv_bipush (v := (97 : Int32)) hx hb dX5_does_86 (by decide) ?_
    refine lv_icmp_ne (tgt := 96) hx hb dX5_does_88 (by decide) (fun c9 => ?_) (fun c9 => ?_)
    · rw [if_neg c9] at hf
      exact k_X5_does_96 B hr  _ _ _ _ _ _ _ hf _ _ _ h (lv_sub hl [1, 2, 3, 4, 5, 6, 0] rfl)
    · rw [if_pos c9] at hf
      refine lv_iload hx hb dX5_does_91 (lv_at hl 6 rfl) ?_
      refine lv_if_ne (tgt := 108) hx hb dX5_does_93 (by decide) (fun c10 => ?_) (fun c10 => ?_)
      · rw [if_neg c10] at hf
        refine lv_iconst (v := (0 : Int32)) hx hb dX5_does_108 (by decide) ?_
        cases hf
        exact sE_z B hr h rfl dX5_does_109
      · rw [if_pos c10] at hf
        exact k_X5_does_96 B hr  _ _ _ _ _ _ _ hf _ _ _ h (lv_sub hl [1, 2, 3, 4, 5, 6, 0] rfl)
  · rw [if_pos c8] at hf
    refine lv_iload hx hb dX5_does_65 (lv_at hl 6 rfl) ?_
    refine lv_if_eq (tgt := 81) hx hb dX5_does_67 (by decide) (fun c11 => ?_) (fun c11 => ?_)
    · rw [if_pos c11] at hf
      refine lv_iload hx hb dX5_does_81 (lv_at hl 6 rfl) ?_
      obtain ⟨c12, hf⟩ := chk_some hf
      cases hf
      exact sE_z B hr h (isb_n c12) dX5_does_83
    · rw [if_neg c11] at hf
      refine lv_aload_n hx hb dX5_does_70 rfl (lv_at hl 1 rfl) ?_
      refine lv_iload_n hx hb dX5_does_71 rfl (lv_at hl 2 rfl) ?_
      refine lv_aload_n hx hb dX5_does_72 rfl (lv_at hl 1 rfl) ?_
      refine lv_iload_n hx hb dX5_does_73 rfl (lv_at hl 2 rfl) ?_
      refine lv_iload_n hx hb dX5_does_74 rfl (lv_at hl 3 rfl) ?_
      obtain ⟨vr13, hq13, hf⟩ := rthn_some hf
      refine sRetC1 (g_runV (k := 44) (T := TX5) (N := 21) B h (ok_X5_placeOf B.2.2.2.2.2.2.2.2 B.2.2.2.2.2.2.1 _ _ v1 v3 hq13) cw_X5_68 ⟨Nat.le_of_ble_eq_true rfl, Nat.le_of_ble_eq_true rfl⟩ (by decide) (M_row _) rfl rfl hl.1.symm rfl (Nat.le_of_ble_eq_true rfl) dX5_does_75 ⟨Nat.zero_le _, Nat.zero_le _⟩) h (fun H locs h => ?_)
      obtain ⟨vr14, σ14, hq14, hf⟩ := wthn_some hf
      refine sRetC0 (g_runV (k := 44) (T := TX5) (N := 21) B h (ok_X5_takes B.2.2.2.2.2.2.2.2 B.2.2.2.2.2.2.1 _ _ v1 vr13 hq14) cw_X5_79 ⟨Nat.le_of_ble_eq_true rfl, Nat.le_of_ble_eq_true rfl⟩ (by decide) (M_row _) rfl rfl hl.1.symm rfl (Nat.le_of_ble_eq_true rfl) dX5_does_78 ⟨Nat.zero_le _, Nat.zero_le _⟩) h (fun H locs h => ?_)
      refine lv_iload hx hb dX5_does_81 (lv_at hl 6 rfl) ?_
      obtain ⟨c15, hf⟩ := chk_some hf
      cases hf
      exact sE_z B hr h (isb_n c15) dX5_does_83
set_option maxHeartbeats 4000000 in
set_option maxRecDepth 100000 in
theorem k_X5_does_0 {p : Program} {l : Launch} {e : Env} {s : State} {m : MethodId} {args : Array Value} {below : List Frame} {meth : Method} {c : Code} {D : va_G} {cy : Nat → ClassId} {ad : Nat → Nat} {X : sX} {r : Int32} {σ' : sM} (B : sB p l s m meth c args cX5_does 9 RX5 D cy ad) (hr : meth.sig.returnType = (some .boolean)) (v1 : Int32) (v2 : Int32) (σ : sM) (hf : f_X5_does v1 v2 σ = some (r, σ')) : sGo p l e { frames := 2, cells := 0, slots := 0, locals := 48 } s m args below meth c D cy ad X 9 (sQ below args s 0 0 D cy ad (.inr (some (.int r))) X σ') σ 0 [(0, .ref (ad 44)), (1, .int v1), (2, .int v2)] [] := by
  replace hf : (chk (inb v2 90) (chk (inb v2 90) (chk (inb v2 90) (rthn (f_X5_has v1 (σ 56 (v2).toNatClampNeg) σ) (fun vr4 => if vr4 = 0 then (b_X5_does_56 v1 (σ 56 (v2).toNatClampNeg) (σ 57 (v2).toNatClampNeg) (σ 55 (v2).toNatClampNeg) vr4 (0 : Int32) σ) else (rthn (f_X5_placeOf v1 (σ 56 (v2).toNatClampNeg) σ) (fun vr6 => chk (inb (((60 : Int32) * v1) + vr6) 180) (b_X5_does_56 v1 (σ 56 (v2).toNatClampNeg) (σ 57 (v2).toNatClampNeg) (σ 55 (v2).toNatClampNeg) vr4 (σ 46 ((((60 : Int32) * v1) + vr6)).toNatClampNeg) σ)))))))) = some (r, σ') := hf
  intro H locs ls h hl
  have hx := B.1
  have hb := B.2.1
  refine lv_aload_n hx hb dX5_does_0 rfl (lv_at hl 0 rfl) ?_
  refine g_get B h 44 (by decide) (C := RX5) (T := TX5) (N := 21) (M_row _) rfl hin_X5 11 (by decide) hw840 rfl rfl dX5_does_1 ?_
  refine lv_iload_n hx hb dX5_does_4 rfl (lv_at hl 2 rfl) ?_
  obtain ⟨c1, hf⟩ := chk_some hf
  refine g_iald B h 56 (by decide) (n := 90) (fun _ => rfl) (inb_in c1) dX5_does_5 ?_
  refine lv_istore_n (lv' := [(3, .int (σ 56 (v2).toNatClampNeg)), (0, .ref (ad 44)), (1, .int v1), (2, .int v2)]) hx hb dX5_does_6 rfl hl (by decide) rfl (fun ls hl => ?_)
  refine lv_aload_n hx hb dX5_does_7 rfl (lv_at hl 1 rfl) ?_
  refine g_get B h 44 (by decide) (C := RX5) (T := TX5) (N := 21) (M_row _) rfl hin_X5 12 (by decide) hw841 rfl rfl dX5_does_8 ?_
  refine lv_iload_n hx hb dX5_does_11 rfl (lv_at hl 3 rfl) ?_
  obtain ⟨c2, hf⟩ := chk_some hf
  refine g_iald B h 57 (by decide) (n := 90) (fun _ => rfl) (inb_in c2) dX5_does_12 ?_
  refine lv_istore (lv' := [(4, .int (σ 57 (v2).toNatClampNeg)), (3, .int (σ 56 (v2).toNatClampNeg)), (0, .ref (ad 44)), (1, .int v1), (2, .int v2)]) hx hb dX5_does_13 hl (by decide) rfl (fun ls hl => ?_)
  refine lv_aload_n hx hb dX5_does_15 rfl (lv_at hl 2 rfl) ?_
  refine g_get B h 44 (by decide) (C := RX5) (T := TX5) (N := 21) (M_row _) rfl hin_X5 10 (by decide) hw839 rfl rfl dX5_does_16 ?_
  refine lv_iload_n hx hb dX5_does_19 rfl (lv_at hl 4 rfl) ?_
  obtain ⟨c3, hf⟩ := chk_some hf
  refine g_cald B h 55 (by decide) (n := 90) (fun _ => rfl) (inb_in c3) dX5_does_20 ?_
  refine lv_istore (lv' := [(5, .int (σ 55 (v2).toNatClampNeg)), (4, .int (σ 57 (v2).toNatClampNeg)), (3, .int (σ 56 (v2).toNatClampNeg)), (0, .ref (ad 44)), (1, .int v1), (2, .int v2)]) hx hb dX5_does_21 hl (by decide) rfl (fun ls hl => ?_)
  refine lv_aload_n hx hb dX5_does_23 rfl (lv_at hl 3 rfl) ?_
  refine lv_iload_n hx hb dX5_does_24 rfl (lv_at hl 4 rfl) ?_
  refine lv_iload_n hx hb dX5_does_25 rfl (lv_at hl 2 rfl) ?_
  obtain ⟨vr4, hq4, hf⟩ := rthn_some hf
  refine sRetC1 (g_runV (k := 44) (T := TX5) (N := 21) B h (ok_X5_has B.2.2.2.2.2.2.2.2 B.2.2.2.2.2.2.1 _ _ v1 (σ 56 (v2).toNatClampNeg) hq4) cw_X5_91 ⟨Nat.le_of_ble_eq_true rfl, Nat.le_of_ble_eq_true rfl⟩ (by decide) (M_row _) rfl rfl hl.1.symm rfl (Nat.le_of_ble_eq_true rfl) dX5_does_26 ⟨Nat.zero_le _, Nat.zero_le _⟩) h (fun H locs h => ?_)
  refine lv_istore (lv' := [(6, .int vr4), (5, .int (σ 55 (v2).toNatClampNeg)), (4, .int (σ 57 (v2).toNatClampNeg)), (3, .int (σ 56 (v2).toNatClampNeg)), (0, .ref (ad 44)), (1, .int v1), (2, .int v2)]) hx hb dX5_does_29 hl (by decide) rfl (fun ls hl => ?_)
  refine lv_iload hx hb dX5_does_31 (lv_at hl 0 rfl) ?_
  refine lv_if_eq (tgt := 55) hx hb dX5_does_33 (by decide) (fun c5 => ?_) (fun c5 => ?_)
  · rw [if_pos c5] at hf
    refine lv_iconst (v := (0 : Int32)) hx hb dX5_does_55 (by decide) ?_
    exact k_X5_does_56 B hr  _ _ _ _ _ _ _ hf _ _ _ h (lv_sub hl [4, 5, 3, 2, 1, 0] rfl)
  · rw [if_neg c5] at hf
    refine lv_aload_n hx hb dX5_does_36 rfl (lv_at hl 4 rfl) ?_
    refine g_get B h 44 (by decide) (C := RX5) (T := TX5) (N := 21) (M_row _) rfl hin_X5 1 (by decide) hw830 rfl rfl dX5_does_37 ?_
    refine lv_bipush (v := (60 : Int32)) hx hb dX5_does_40 (by decide) ?_
    refine lv_iload_n hx hb dX5_does_42 rfl (lv_at hl 5 rfl) ?_
    refine lv_imul hx hb dX5_does_43 ?_
    refine lv_aload_n hx hb dX5_does_44 rfl (lv_at hl 4 rfl) ?_
    refine lv_iload_n hx hb dX5_does_45 rfl (lv_at hl 5 rfl) ?_
    refine lv_iload_n hx hb dX5_does_46 rfl (lv_at hl 3 rfl) ?_
    obtain ⟨vr6, hq6, hf⟩ := rthn_some hf
    refine sRetC1 (g_runV (k := 44) (T := TX5) (N := 21) B h (ok_X5_placeOf B.2.2.2.2.2.2.2.2 B.2.2.2.2.2.2.1 _ _ v1 (σ 56 (v2).toNatClampNeg) hq6) cw_X5_68 ⟨Nat.le_of_ble_eq_true rfl, Nat.le_of_ble_eq_true rfl⟩ (by decide) (M_row _) rfl rfl hl.1.symm rfl (Nat.le_of_ble_eq_true rfl) dX5_does_47 ⟨Nat.zero_le _, Nat.zero_le _⟩) h (fun H locs h => ?_)
    refine lv_iadd hx hb dX5_does_50 ?_
    obtain ⟨c7, hf⟩ := chk_some hf
    refine g_iald B h 46 (by decide) (n := 180) (fun _ => rfl) (inb_in c7) dX5_does_51 ?_
    refine lv_goto (tgt := 56) hx hb dX5_does_52 (by decide) ?_
    exact k_X5_does_56 B hr  _ _ _ _ _ _ _ hf _ _ _ h (lv_sub hl [4, 5, 3, 2, 1, 0] rfl)
set_option maxRecDepth 100000 in
theorem ok_X5_does {l : Launch} (hl0 : l.stackTraces = false) {D : va_G} {cy : Nat → ClassId} {ad : Nat → Nat} (hap : sAp ad) (X : sX) (σ : sM) (v1 : Int32) (v2 : Int32) {r : Int32} {σ' : sM} (hf : f_X5_does v1 v2 σ = some (r, σ')) : sMet l yX5_does (sWs yX5_does cX5_does 9 (some .boolean)) 2 48 0 0 D cy ad X σ [.ref (ad 44), .int v1, .int v2] (.inr (some (.int r))) X σ' := by
  refine sMet_of (by decide +kernel) (Nat.le_of_ble_eq_true rfl) hap hl0 ?_
  intro p e s m args below meth c ls B hr htab hl h
  exact k_X5_does_0 B hr _ _ _  hf _ _ _ h hl
set_option maxHeartbeats 4000000 in
set_option maxRecDepth 100000 in
theorem k_X5_pollsAt_0 {p : Program} {l : Launch} {e : Env} {s : State} {m : MethodId} {args : Array Value} {below : List Frame} {meth : Method} {c : Code} {D : va_G} {cy : Nat → ClassId} {ad : Nat → Nat} {X : sX} {r : Int32} {σ' : sM} (B : sB p l s m meth c args cX5_pollsAt 4 RX5 D cy ad) (hr : meth.sig.returnType = (some .int)) (v1 : Int32) (v2 : Int32) (σ : sM) (hf : f_X5_pollsAt v1 v2 σ = some (r, σ')) : sGo p l e { frames := 1, cells := 0, slots := 0, locals := 23 } s m args below meth c D cy ad X 4 (sQ below args s 0 0 D cy ad (.inr (some (.int r))) X σ') σ 0 [(0, .ref (ad 44)), (1, .int v1), (2, .int v2)] [] := by
  replace hf : (chk (inb (((60 : Int32) * v1) + v2) 180) (stl (va_up σ 44 (upd (σ 44) 18 (1 : Int32))) (fun σ2 => chk (inb (((60 : Int32) * v1) + v2) 180) (stl (va_up σ2 44 (upd (σ2 44) 19 (σ2 46 ((((60 : Int32) * v1) + v2)).toNatClampNeg))) (fun σ4 => wthn (f_X5_takes v1 v2 σ4) (fun _ σ5 => some ((σ 45 ((((60 : Int32) * v1) + v2)).toNatClampNeg), σ5))))))) = some (r, σ') := hf
  intro H locs ls h hl
  have hx := B.1
  have hb := B.2.1
  refine lv_aload_n hx hb dX5_pollsAt_0 rfl (lv_at hl 0 rfl) ?_
  refine g_get B h 44 (by decide) (C := RX5) (T := TX5) (N := 21) (M_row _) rfl hin_X5 0 (by decide) hw829 rfl rfl dX5_pollsAt_1 ?_
  refine lv_bipush (v := (60 : Int32)) hx hb dX5_pollsAt_4 (by decide) ?_
  refine lv_iload_n hx hb dX5_pollsAt_6 rfl (lv_at hl 1 rfl) ?_
  refine lv_imul hx hb dX5_pollsAt_7 ?_
  refine lv_iload_n hx hb dX5_pollsAt_8 rfl (lv_at hl 2 rfl) ?_
  refine lv_iadd hx hb dX5_pollsAt_9 ?_
  obtain ⟨c1, hf⟩ := chk_some hf
  refine g_iald B h 45 (by decide) (n := 180) (fun _ => rfl) (inb_in c1) dX5_pollsAt_10 ?_
  refine lv_istore_n (lv' := [(3, .int (σ 45 ((((60 : Int32) * v1) + v2)).toNatClampNeg)), (0, .ref (ad 44)), (1, .int v1), (2, .int v2)]) hx hb dX5_pollsAt_11 rfl hl (by decide) rfl (fun ls hl => ?_)
  refine lv_aload_n hx hb dX5_pollsAt_12 rfl (lv_at hl 1 rfl) ?_
  refine lv_iconst (v := (1 : Int32)) hx hb dX5_pollsAt_13 (by decide) ?_
  refine g_put B h 44 (by decide) (C := RX5) (T := TX5) (N := 21) (M_row _) rfl hin_X5 tyX5 tyX5_ok nmX5 18 (by decide) hw847 rfl rfl rfl rfl (upd (σ 44) 18 (1 : Int32)) (M_put18 _ _) (Nat.le_of_ble_eq_true rfl) dX5_pollsAt_14 (fun H locs h => ?_)
  obtain ⟨σ2, e2, hf⟩ := stl_some hf
  rw [← e2] at h
  refine lv_aload_n hx hb dX5_pollsAt_17 rfl (lv_at hl 1 rfl) ?_
  refine lv_aload_n hx hb dX5_pollsAt_18 rfl (lv_at hl 1 rfl) ?_
  refine g_get B h 44 (by decide) (C := RX5) (T := TX5) (N := 21) (M_row _) rfl hin_X5 1 (by decide) hw830 rfl rfl dX5_pollsAt_19 ?_
  refine lv_bipush (v := (60 : Int32)) hx hb dX5_pollsAt_22 (by decide) ?_
  refine lv_iload_n hx hb dX5_pollsAt_24 rfl (lv_at hl 2 rfl) ?_
  refine lv_imul hx hb dX5_pollsAt_25 ?_
  refine lv_iload_n hx hb dX5_pollsAt_26 rfl (lv_at hl 3 rfl) ?_
  refine lv_iadd hx hb dX5_pollsAt_27 ?_
  obtain ⟨c3, hf⟩ := chk_some hf
  refine g_iald B h 46 (by decide) (n := 180) (fun _ => rfl) (inb_in c3) dX5_pollsAt_28 ?_
  refine g_put B h 44 (by decide) (C := RX5) (T := TX5) (N := 21) (M_row _) rfl hin_X5 tyX5 tyX5_ok nmX5 19 (by decide) hw848 rfl rfl rfl rfl (upd (σ2 44) 19 (σ2 46 ((((60 : Int32) * v1) + v2)).toNatClampNeg)) (M_put19 _ _) (Nat.le_of_ble_eq_true rfl) dX5_pollsAt_29 (fun H locs h => ?_)
  obtain ⟨σ4, e4, hf⟩ := stl_some hf
  rw [← e4] at h
  refine lv_aload_n hx hb dX5_pollsAt_32 rfl (lv_at hl 1 rfl) ?_
  refine lv_iload_n hx hb dX5_pollsAt_33 rfl (lv_at hl 2 rfl) ?_
  refine lv_iload_n hx hb dX5_pollsAt_34 rfl (lv_at hl 3 rfl) ?_
  obtain ⟨vr5, σ5, hq5, hf⟩ := wthn_some hf
  refine sRetC0 (g_runV (k := 44) (T := TX5) (N := 21) B h (ok_X5_takes B.2.2.2.2.2.2.2.2 B.2.2.2.2.2.2.1 _ _ v1 v2 hq5) cw_X5_79 ⟨Nat.le_of_ble_eq_true rfl, Nat.le_of_ble_eq_true rfl⟩ (by decide) (M_row _) rfl rfl hl.1.symm rfl (Nat.le_of_ble_eq_true rfl) dX5_pollsAt_35 ⟨Nat.zero_le _, Nat.zero_le _⟩) h (fun H locs h => ?_)
  refine lv_iload_n hx hb dX5_pollsAt_38 rfl (lv_at hl 0 rfl) ?_
  cases hf
  exact sE_i B hr h dX5_pollsAt_39
set_option maxRecDepth 100000 in
theorem ok_X5_pollsAt {l : Launch} (hl0 : l.stackTraces = false) {D : va_G} {cy : Nat → ClassId} {ad : Nat → Nat} (hap : sAp ad) (X : sX) (σ : sM) (v1 : Int32) (v2 : Int32) {r : Int32} {σ' : sM} (hf : f_X5_pollsAt v1 v2 σ = some (r, σ')) : sMet l yX5_pollsAt (sWs yX5_pollsAt cX5_pollsAt 4 (some .int)) 1 23 0 0 D cy ad X σ [.ref (ad 44), .int v1, .int v2] (.inr (some (.int r))) X σ' := by
  refine sMet_of (by decide +kernel) (Nat.le_of_ble_eq_true rfl) hap hl0 ?_
  intro p e s m args below meth c ls B hr htab hl h
  exact k_X5_pollsAt_0 B hr _ _ _  hf _ _ _ h hl
set_option maxHeartbeats 4000000 in
set_option maxRecDepth 100000 in
theorem k_X5_drain_26 {p : Program} {l : Launch} {e : Env} {s : State} {m : MethodId} {args : Array Value} {below : List Frame} {meth : Method} {c : Code} {D : va_G} {cy : Nat → ClassId} {ad : Nat → Nat} {X : sX} {r : Int32} {σ' : sM} (B : sB p l s m meth c args cX5_drain 3 RX5 D cy ad) (hr : meth.sig.returnType = (some .int)) : ∀ (n : Nat) (v1 : Int32) (v2 : Int32) (σ : sM), b_X5_drain_26 n v1 v2 σ = some (r, σ') → sGo p l e { frames := 2, cells := 0, slots := 0, locals := 46 } s m args below meth c D cy ad X 3 (sQ below args s 0 0 D cy ad (.inr (some (.int r))) X σ') σ 26 [(0, .ref (ad 44)), (1, .int v1), (2, .int v2)] [] := by
  intro n
  induction n with
  | zero =>
    intro v1 v2 σ hf
    exact nomatch (show none = some (r, σ') from hf)
  | succ n ih =>
    intro v1 v2 σ hf
    replace hf : (chk (inb v1 3) (if (σ 47 (v1).toNatClampNeg) ≤ 0 then (some ((σ 44 17), σ)) else (if v2 = 0 then (wthn (f_X5_pollsAt v1 (0 : Int32) σ) (fun vr12 σ12 => chk (inb (σ 44 17) 60) (stl (va_up σ12 60 (upd (σ12 60) ((σ 44 17)).toNatClampNeg vr12)) (fun σ14 => stl (va_up σ14 44 (upd (σ14 44) 17 ((σ14 44 17) + (1 : Int32)))) (fun σ15 => b_X5_drain_26 n v1 v2 σ15))))) else (chk (inb v1 3) (wthn (f_X5_pollsAt v1 ((σ 47 (v1).toNatClampNeg) - (1 : Int32)) σ) (fun vr17 σ17 => chk (inb (σ 44 17) 60) (stl (va_up σ17 60 (upd (σ17 60) ((σ 44 17)).toNatClampNeg vr17)) (fun σ19 => stl (va_up σ19 44 (upd (σ19 44) 17 ((σ19 44 17) + (1 : Int32)))) (fun σ20 => b_X5_drain_26 n v1 v2 σ20))))))))) = some (r, σ') := hf
    intro H locs ls h hl
    have hx := B.1
    have hb := B.2.1
    refine lv_aload_n hx hb dX5_drain_26 rfl (lv_at hl 0 rfl) ?_
    refine g_get B h 44 (by decide) (C := RX5) (T := TX5) (N := 21) (M_row _) rfl hin_X5 2 (by decide) hw831 rfl rfl dX5_drain_27 ?_
    refine lv_iload_n hx hb dX5_drain_30 rfl (lv_at hl 1 rfl) ?_
    obtain ⟨c9, hf⟩ := chk_some hf
    refine g_iald B h 47 (by decide) (n := 3) (fun _ => rfl) (inb_in c9) dX5_drain_31 ?_
    refine lv_if_le (tgt := 78) hx hb dX5_drain_32 (by decide) (fun c10 => ?_) (fun c10 => ?_)
    · rw [if_pos c10] at hf
      refine lv_aload_n hx hb dX5_drain_78 rfl (lv_at hl 0 rfl) ?_
      refine g_get B h 44 (by decide) (C := RX5) (T := TX5) (N := 21) (M_row _) rfl hin_X5 17 (by decide) hw846 rfl rfl dX5_drain_79 ?_
      cases hf
      exact sE_i B hr h dX5_drain_82
    · rw [if_neg c10] at hf
      refine lv_aload_n hx hb dX5_drain_35 rfl (lv_at hl 0 rfl) ?_
      refine g_get B h 44 (by decide) (C := RX5) (T := TX5) (N := 21) (M_row _) rfl hin_X5 16 (by decide) hw845 rfl rfl dX5_drain_36 ?_
      refine lv_aload_n hx hb dX5_drain_39 rfl (lv_at hl 0 rfl) ?_
      refine g_get B h 44 (by decide) (C := RX5) (T := TX5) (N := 21) (M_row _) rfl hin_X5 17 (by decide) hw846 rfl rfl dX5_drain_40 ?_
      refine lv_aload_n hx hb dX5_drain_43 rfl (lv_at hl 0 rfl) ?_
      refine lv_iload_n hx hb dX5_drain_44 rfl (lv_at hl 1 rfl) ?_
      refine lv_iload_n hx hb dX5_drain_45 rfl (lv_at hl 2 rfl) ?_
      refine lv_if_eq (tgt := 60) hx hb dX5_drain_46 (by decide) (fun c11 => ?_) (fun c11 => ?_)
      · rw [if_pos c11] at hf
        refine lv_iconst (v := (0 : Int32)) hx hb dX5_drain_60 (by decide) ?_
        obtain ⟨vr12, σ12, hq12, hf⟩ := wthn_some hf
        refine sRetC1 (g_runV (k := 44) (T := TX5) (N := 21) B h (ok_X5_pollsAt B.2.2.2.2.2.2.2.2 B.2.2.2.2.2.2.1 _ _ v1 (0 : Int32) hq12) cw_X5_110 ⟨Nat.le_of_ble_eq_true rfl, Nat.le_of_ble_eq_true rfl⟩ (by decide) (M_row _) rfl rfl hl.1.symm rfl (Nat.le_of_ble_eq_true rfl) dX5_drain_61 ⟨Nat.zero_le _, Nat.zero_le _⟩) h (fun H locs h => ?_)
        obtain ⟨c13, hf⟩ := chk_some hf
        refine g_iast B h 60 (by decide) (n := 60) (fun _ => rfl) (inb_in c13) dX5_drain_64 (fun H locs h => ?_)
        obtain ⟨σ14, e14, hf⟩ := stl_some hf
        rw [← e14] at h
        refine lv_aload_n hx hb dX5_drain_65 rfl (lv_at hl 0 rfl) ?_
        refine lv_dup hx hb dX5_drain_66 rfl ?_
        refine g_get B h 44 (by decide) (C := RX5) (T := TX5) (N := 21) (M_row _) rfl hin_X5 17 (by decide) hw846 rfl rfl dX5_drain_67 ?_
        refine lv_iconst (v := (1 : Int32)) hx hb dX5_drain_70 (by decide) ?_
        refine lv_iadd hx hb dX5_drain_71 ?_
        refine g_put B h 44 (by decide) (C := RX5) (T := TX5) (N := 21) (M_row _) rfl hin_X5 tyX5 tyX5_ok nmX5 17 (by decide) hw846 rfl rfl rfl rfl (upd (σ14 44) 17 ((σ14 44 17) + (1 : Int32))) (M_put17 _ _) (Nat.le_of_ble_eq_true rfl) dX5_drain_72 (fun H locs h => ?_)
        obtain ⟨σ15, e15, hf⟩ := stl_some hf
        rw [← e15] at h
        refine lv_goto (tgt := 26) hx hb dX5_drain_75 (by decide) ?_
        exact ih _ _ _ hf _ _ _ h (lv_sub hl [0, 1, 2] rfl)
      · rw [if_neg c11] at hf
        refine lv_aload_n hx hb dX5_drain_49 rfl (lv_at hl 0 rfl) ?_
        refine g_get B h 44 (by decide) (C := RX5) (T := TX5) (N := 21) (M_row _) rfl hin_X5 2 (by decide) hw831 rfl rfl dX5_drain_50 ?_
        refine lv_iload_n hx hb dX5_drain_53 rfl (lv_at hl 1 rfl) ?_
        obtain ⟨c16, hf⟩ := chk_some hf
        refine g_iald B h 47 (by decide) (n := 3) (fun _ => rfl) (inb_in c16) dX5_drain_54 ?_
        refine lv_iconst (v := (1 : Int32)) hx hb dX5_drain_55 (by decide) ?_
        refine lv_isub hx hb dX5_drain_56 ?_
        refine lv_goto (tgt := 61) hx hb dX5_drain_57 (by decide) ?_
        obtain ⟨vr17, σ17, hq17, hf⟩ := wthn_some hf
        refine sRetC1 (g_runV (k := 44) (T := TX5) (N := 21) B h (ok_X5_pollsAt B.2.2.2.2.2.2.2.2 B.2.2.2.2.2.2.1 _ _ v1 ((σ 47 (v1).toNatClampNeg) - (1 : Int32)) hq17) cw_X5_110 ⟨Nat.le_of_ble_eq_true rfl, Nat.le_of_ble_eq_true rfl⟩ (by decide) (M_row _) rfl rfl hl.1.symm rfl (Nat.le_of_ble_eq_true rfl) dX5_drain_61 ⟨Nat.zero_le _, Nat.zero_le _⟩) h (fun H locs h => ?_)
        obtain ⟨c18, hf⟩ := chk_some hf
        refine g_iast B h 60 (by decide) (n := 60) (fun _ => rfl) (inb_in c18) dX5_drain_64 (fun H locs h => ?_)
        obtain ⟨σ19, e19, hf⟩ := stl_some hf
        rw [← e19] at h
        refine lv_aload_n hx hb dX5_drain_65 rfl (lv_at hl 0 rfl) ?_
        refine lv_dup hx hb dX5_drain_66 rfl ?_
        refine g_get B h 44 (by decide) (C := RX5) (T := TX5) (N := 21) (M_row _) rfl hin_X5 17 (by decide) hw846 rfl rfl dX5_drain_67 ?_
        refine lv_iconst (v := (1 : Int32)) hx hb dX5_drain_70 (by decide) ?_
        refine lv_iadd hx hb dX5_drain_71 ?_
        refine g_put B h 44 (by decide) (C := RX5) (T := TX5) (N := 21) (M_row _) rfl hin_X5 tyX5 tyX5_ok nmX5 17 (by decide) hw846 rfl rfl rfl rfl (upd (σ19 44) 17 ((σ19 44 17) + (1 : Int32))) (M_put17 _ _) (Nat.le_of_ble_eq_true rfl) dX5_drain_72 (fun H locs h => ?_)
        obtain ⟨σ20, e20, hf⟩ := stl_some hf
        rw [← e20] at h
        refine lv_goto (tgt := 26) hx hb dX5_drain_75 (by decide) ?_
        exact ih _ _ _ hf _ _ _ h (lv_sub hl [0, 1, 2] rfl)
set_option maxHeartbeats 4000000 in
set_option maxRecDepth 100000 in
theorem k_X5_drain_0 {p : Program} {l : Launch} {e : Env} {s : State} {m : MethodId} {args : Array Value} {below : List Frame} {meth : Method} {c : Code} {D : va_G} {cy : Nat → ClassId} {ad : Nat → Nat} {X : sX} {r : Int32} {σ' : sM} (B : sB p l s m meth c args cX5_drain 3 RX5 D cy ad) (hr : meth.sig.returnType = (some .int)) (v1 : Int32) (v2 : Int32) (σ : sM) (hf : f_X5_drain v1 v2 σ = some (r, σ')) : sGo p l e { frames := 2, cells := 0, slots := 0, locals := 46 } s m args below meth c D cy ad X 3 (sQ below args s 0 0 D cy ad (.inr (some (.int r))) X σ') σ 0 [(0, .ref (ad 44)), (1, .int v1), (2, .int v2)] [] := by
  replace hf : (rthn (f_X5_isMap v1 σ) (fun vr1 => if vr1 = 0 then (wthn (f_X5_refused (1 : Int32) σ) (fun vr6 σ6 => if vr6 = 0 then (stl (va_up σ6 44 (upd (σ6 44) 17 (0 : Int32))) (fun σ8 => b_X5_drain_26 FU v1 v2 σ8)) else (some ((0 : Int32), σ6)))) else (wthn (f_X5_refused (0 : Int32) σ) (fun vr3 σ3 => if vr3 = 0 then (stl (va_up σ3 44 (upd (σ3 44) 17 (0 : Int32))) (fun σ5 => b_X5_drain_26 FU v1 v2 σ5)) else (some ((0 : Int32), σ3)))))) = some (r, σ') := hf
  intro H locs ls h hl
  have hx := B.1
  have hb := B.2.1
  refine lv_aload_n hx hb dX5_drain_0 rfl (lv_at hl 0 rfl) ?_
  refine lv_iload_n hx hb dX5_drain_1 rfl (lv_at hl 1 rfl) ?_
  obtain ⟨vr1, hq1, hf⟩ := rthn_some hf
  refine sRetC1 (g_runS B h (ok_X5_isMap B.2.2.2.2.2.2.2.2 B.2.2.2.2.2.2.1 _ _ v1 hq1) cw_X5_87 ⟨Nat.le_of_ble_eq_true rfl, Nat.le_of_ble_eq_true rfl⟩ rfl hl.1.symm rfl (Nat.le_of_ble_eq_true rfl) dX5_drain_2 ⟨Nat.zero_le _, Nat.zero_le _⟩) h (fun H locs h => ?_)
  refine lv_if_ne (tgt := 12) hx hb dX5_drain_5 (by decide) (fun c2 => ?_) (fun c2 => ?_)
  · rw [if_neg c2] at hf
    refine lv_iconst (v := (0 : Int32)) hx hb dX5_drain_12 (by decide) ?_
    obtain ⟨vr3, σ3, hq3, hf⟩ := wthn_some hf
    refine sRetC1 (g_runV (k := 44) (T := TX5) (N := 21) B h (ok_X5_refused B.2.2.2.2.2.2.2.2 B.2.2.2.2.2.2.1 _ _ (0 : Int32) hq3) cw_X5_95 ⟨Nat.le_of_ble_eq_true rfl, Nat.le_of_ble_eq_true rfl⟩ (by decide) (M_row _) rfl rfl hl.1.symm rfl (Nat.le_of_ble_eq_true rfl) dX5_drain_13 ⟨Nat.zero_le _, Nat.zero_le _⟩) h (fun H locs h => ?_)
    refine lv_if_eq (tgt := 21) hx hb dX5_drain_16 (by decide) (fun c4 => ?_) (fun c4 => ?_)
    · rw [if_pos c4] at hf
      refine lv_aload_n hx hb dX5_drain_21 rfl (lv_at hl 0 rfl) ?_
      refine lv_iconst (v := (0 : Int32)) hx hb dX5_drain_22 (by decide) ?_
      refine g_put B h 44 (by decide) (C := RX5) (T := TX5) (N := 21) (M_row _) rfl hin_X5 tyX5 tyX5_ok nmX5 17 (by decide) hw846 rfl rfl rfl rfl (upd (σ3 44) 17 (0 : Int32)) (M_put17 _ _) (Nat.le_of_ble_eq_true rfl) dX5_drain_23 (fun H locs h => ?_)
      obtain ⟨σ5, e5, hf⟩ := stl_some hf
      rw [← e5] at h
      exact k_X5_drain_26 B hr  _ _ _ _ hf _ _ _ h (lv_sub hl [0, 1, 2] rfl)
    · rw [if_neg c4] at hf
      refine lv_iconst (v := (0 : Int32)) hx hb dX5_drain_19 (by decide) ?_
      cases hf
      exact sE_i B hr h dX5_drain_20
  · rw [if_pos c2] at hf
    refine lv_iconst (v := (1 : Int32)) hx hb dX5_drain_8 (by decide) ?_
    refine lv_goto (tgt := 13) hx hb dX5_drain_9 (by decide) ?_
    obtain ⟨vr6, σ6, hq6, hf⟩ := wthn_some hf
    refine sRetC1 (g_runV (k := 44) (T := TX5) (N := 21) B h (ok_X5_refused B.2.2.2.2.2.2.2.2 B.2.2.2.2.2.2.1 _ _ (1 : Int32) hq6) cw_X5_95 ⟨Nat.le_of_ble_eq_true rfl, Nat.le_of_ble_eq_true rfl⟩ (by decide) (M_row _) rfl rfl hl.1.symm rfl (Nat.le_of_ble_eq_true rfl) dX5_drain_13 ⟨Nat.zero_le _, Nat.zero_le _⟩) h (fun H locs h => ?_)
    refine lv_if_eq (tgt := 21) hx hb dX5_drain_16 (by decide) (fun c7 => ?_) (fun c7 => ?_)
    · rw [if_pos c7] at hf
      refine lv_aload_n hx hb dX5_drain_21 rfl (lv_at hl 0 rfl) ?_
      refine lv_iconst (v := (0 : Int32)) hx hb dX5_drain_22 (by decide) ?_
      refine g_put B h 44 (by decide) (C := RX5) (T := TX5) (N := 21) (M_row _) rfl hin_X5 tyX5 tyX5_ok nmX5 17 (by decide) hw846 rfl rfl rfl rfl (upd (σ6 44) 17 (0 : Int32)) (M_put17 _ _) (Nat.le_of_ble_eq_true rfl) dX5_drain_23 (fun H locs h => ?_)
      obtain ⟨σ8, e8, hf⟩ := stl_some hf
      rw [← e8] at h
      exact k_X5_drain_26 B hr  _ _ _ _ hf _ _ _ h (lv_sub hl [0, 1, 2] rfl)
    · rw [if_neg c7] at hf
      refine lv_iconst (v := (0 : Int32)) hx hb dX5_drain_19 (by decide) ?_
      cases hf
      exact sE_i B hr h dX5_drain_20
set_option maxRecDepth 100000 in
theorem ok_X5_drain {l : Launch} (hl0 : l.stackTraces = false) {D : va_G} {cy : Nat → ClassId} {ad : Nat → Nat} (hap : sAp ad) (X : sX) (σ : sM) (v1 : Int32) (v2 : Int32) {r : Int32} {σ' : sM} (hf : f_X5_drain v1 v2 σ = some (r, σ')) : sMet l yX5_drain (sWs yX5_drain cX5_drain 3 (some .int)) 2 46 0 0 D cy ad X σ [.ref (ad 44), .int v1, .int v2] (.inr (some (.int r))) X σ' := by
  refine sMet_of (by decide +kernel) (Nat.le_of_ble_eq_true rfl) hap hl0 ?_
  intro p e s m args below meth c ls B hr htab hl h
  exact k_X5_drain_0 B hr _ _ _  hf _ _ _ h hl
set_option maxHeartbeats 4000000 in
set_option maxRecDepth 100000 in
theorem k_X5_drained_0 {p : Program} {l : Launch} {e : Env} {s : State} {m : MethodId} {args : Array Value} {below : List Frame} {meth : Method} {c : Code} {D : va_G} {cy : Nat → ClassId} {ad : Nat → Nat} {X : sX} {r : Int32} {σ' : sM} (B : sB p l s m meth c args cX5_drained 2 RX5 D cy ad) (hr : meth.sig.returnType = (some .int)) (v1 : Int32) (σ : sM) (hf : f_X5_drained v1 σ = some (r, σ')) : sGo p l e { frames := 1, cells := 0, slots := 0, locals := 22 } s m args below meth c D cy ad X 2 (sQ below args s 0 0 D cy ad (.inr (some (.int r))) X σ') σ 0 [(0, .ref (ad 44)), (1, .int v1)] [] := by
  replace hf : (rthn (f_X5_in v1 (0 : Int32) ((σ 44 17) - (1 : Int32)) σ) (fun vr1 => if vr1 = 0 then (wthn (f_X5_refused (1 : Int32) σ) (fun vr6 σ6 => if vr6 = 0 then (chk (inb v1 60) (some ((σ6 60 (v1).toNatClampNeg), σ6))) else (some ((0 : Int32), σ6)))) else (wthn (f_X5_refused (0 : Int32) σ) (fun vr3 σ3 => if vr3 = 0 then (chk (inb v1 60) (some ((σ3 60 (v1).toNatClampNeg), σ3))) else (some ((0 : Int32), σ3)))))) = some (r, σ') := hf
  intro H locs ls h hl
  have hx := B.1
  have hb := B.2.1
  refine lv_aload_n hx hb dX5_drained_0 rfl (lv_at hl 0 rfl) ?_
  refine lv_iload_n hx hb dX5_drained_1 rfl (lv_at hl 1 rfl) ?_
  refine lv_iconst (v := (0 : Int32)) hx hb dX5_drained_2 (by decide) ?_
  refine lv_aload_n hx hb dX5_drained_3 rfl (lv_at hl 0 rfl) ?_
  refine g_get B h 44 (by decide) (C := RX5) (T := TX5) (N := 21) (M_row _) rfl hin_X5 17 (by decide) hw846 rfl rfl dX5_drained_4 ?_
  refine lv_iconst (v := (1 : Int32)) hx hb dX5_drained_7 (by decide) ?_
  refine lv_isub hx hb dX5_drained_8 ?_
  obtain ⟨vr1, hq1, hf⟩ := rthn_some hf
  refine sRetC1 (g_runS B h (ok_X5_in B.2.2.2.2.2.2.2.2 B.2.2.2.2.2.2.1 _ _ v1 (0 : Int32) ((σ 44 17) - (1 : Int32)) hq1) cw_X5_64 ⟨Nat.le_of_ble_eq_true rfl, Nat.le_of_ble_eq_true rfl⟩ rfl hl.1.symm rfl (Nat.le_of_ble_eq_true rfl) dX5_drained_9 ⟨Nat.zero_le _, Nat.zero_le _⟩) h (fun H locs h => ?_)
  refine lv_if_ne (tgt := 19) hx hb dX5_drained_12 (by decide) (fun c2 => ?_) (fun c2 => ?_)
  · rw [if_neg c2] at hf
    refine lv_iconst (v := (0 : Int32)) hx hb dX5_drained_19 (by decide) ?_
    obtain ⟨vr3, σ3, hq3, hf⟩ := wthn_some hf
    refine sRetC1 (g_runV (k := 44) (T := TX5) (N := 21) B h (ok_X5_refused B.2.2.2.2.2.2.2.2 B.2.2.2.2.2.2.1 _ _ (0 : Int32) hq3) cw_X5_95 ⟨Nat.le_of_ble_eq_true rfl, Nat.le_of_ble_eq_true rfl⟩ (by decide) (M_row _) rfl rfl hl.1.symm rfl (Nat.le_of_ble_eq_true rfl) dX5_drained_20 ⟨Nat.zero_le _, Nat.zero_le _⟩) h (fun H locs h => ?_)
    refine lv_if_eq (tgt := 30) hx hb dX5_drained_23 (by decide) (fun c4 => ?_) (fun c4 => ?_)
    · rw [if_pos c4] at hf
      refine lv_aload_n hx hb dX5_drained_30 rfl (lv_at hl 0 rfl) ?_
      refine g_get B h 44 (by decide) (C := RX5) (T := TX5) (N := 21) (M_row _) rfl hin_X5 16 (by decide) hw845 rfl rfl dX5_drained_31 ?_
      refine lv_iload_n hx hb dX5_drained_34 rfl (lv_at hl 1 rfl) ?_
      obtain ⟨c5, hf⟩ := chk_some hf
      refine g_iald B h 60 (by decide) (n := 60) (fun _ => rfl) (inb_in c5) dX5_drained_35 ?_
      cases hf
      exact sE_i B hr h dX5_drained_36
    · rw [if_neg c4] at hf
      refine lv_iconst (v := (0 : Int32)) hx hb dX5_drained_26 (by decide) ?_
      refine lv_goto (tgt := 36) hx hb dX5_drained_27 (by decide) ?_
      cases hf
      exact sE_i B hr h dX5_drained_36
  · rw [if_pos c2] at hf
    refine lv_iconst (v := (1 : Int32)) hx hb dX5_drained_15 (by decide) ?_
    refine lv_goto (tgt := 20) hx hb dX5_drained_16 (by decide) ?_
    obtain ⟨vr6, σ6, hq6, hf⟩ := wthn_some hf
    refine sRetC1 (g_runV (k := 44) (T := TX5) (N := 21) B h (ok_X5_refused B.2.2.2.2.2.2.2.2 B.2.2.2.2.2.2.1 _ _ (1 : Int32) hq6) cw_X5_95 ⟨Nat.le_of_ble_eq_true rfl, Nat.le_of_ble_eq_true rfl⟩ (by decide) (M_row _) rfl rfl hl.1.symm rfl (Nat.le_of_ble_eq_true rfl) dX5_drained_20 ⟨Nat.zero_le _, Nat.zero_le _⟩) h (fun H locs h => ?_)
    refine lv_if_eq (tgt := 30) hx hb dX5_drained_23 (by decide) (fun c7 => ?_) (fun c7 => ?_)
    · rw [if_pos c7] at hf
      refine lv_aload_n hx hb dX5_drained_30 rfl (lv_at hl 0 rfl) ?_
      refine g_get B h 44 (by decide) (C := RX5) (T := TX5) (N := 21) (M_row _) rfl hin_X5 16 (by decide) hw845 rfl rfl dX5_drained_31 ?_
      refine lv_iload_n hx hb dX5_drained_34 rfl (lv_at hl 1 rfl) ?_
      obtain ⟨c8, hf⟩ := chk_some hf
      refine g_iald B h 60 (by decide) (n := 60) (fun _ => rfl) (inb_in c8) dX5_drained_35 ?_
      cases hf
      exact sE_i B hr h dX5_drained_36
    · rw [if_neg c7] at hf
      refine lv_iconst (v := (0 : Int32)) hx hb dX5_drained_26 (by decide) ?_
      refine lv_goto (tgt := 36) hx hb dX5_drained_27 (by decide) ?_
      cases hf
      exact sE_i B hr h dX5_drained_36
set_option maxRecDepth 100000 in
theorem ok_X5_drained {l : Launch} (hl0 : l.stackTraces = false) {D : va_G} {cy : Nat → ClassId} {ad : Nat → Nat} (hap : sAp ad) (X : sX) (σ : sM) (v1 : Int32) {r : Int32} {σ' : sM} (hf : f_X5_drained v1 σ = some (r, σ')) : sMet l yX5_drained (sWs yX5_drained cX5_drained 2 (some .int)) 1 22 0 0 D cy ad X σ [.ref (ad 44), .int v1] (.inr (some (.int r))) X σ' := by
  refine sMet_of (by decide +kernel) (Nat.le_of_ble_eq_true rfl) hap hl0 ?_
  intro p e s m args below meth c ls B hr htab hl h
  exact k_X5_drained_0 B hr _ _  hf _ _ _ h hl
set_option maxHeartbeats 4000000 in
set_option maxRecDepth 100000 in
theorem k_X5_end_26 {p : Program} {l : Launch} {e : Env} {s : State} {m : MethodId} {args : Array Value} {below : List Frame} {meth : Method} {c : Code} {D : va_G} {cy : Nat → ClassId} {ad : Nat → Nat} {X : sX} {r : Int32} {σ' : sM} (B : sB p l s m meth c args cX5_end 3 RX5 D cy ad) (hr : meth.sig.returnType = (some .int)) (v1 : Int32) (v2 : Int32) (vs1 : Int32) (σ : sM) (hf : b_X5_end_26 v1 v2 vs1 σ = some (r, σ')) : sGo p l e { frames := 2, cells := 0, slots := 0, locals := 42 } s m args below meth c D cy ad X 3 (sQ below args s 0 0 D cy ad (.inr (some (.int r))) X σ') σ 26 [(0, .ref (ad 44)), (1, .int v1), (2, .int v2)] [.int vs1, .ref (ad 44)] := by
  replace hf : (wthn (f_X5_refused vs1 σ) (fun vr5 σ5 => if vr5 = 0 then (if v2 = 0 then (chk (inb (((60 : Int32) * v1) + (0 : Int32)) 180) (some ((σ5 45 ((((60 : Int32) * v1) + (0 : Int32))).toNatClampNeg), σ5))) else (chk (inb v1 3) (chk (inb (((60 : Int32) * v1) + ((σ5 47 (v1).toNatClampNeg) - (1 : Int32))) 180) (some ((σ5 45 ((((60 : Int32) * v1) + ((σ5 47 (v1).toNatClampNeg) - (1 : Int32)))).toNatClampNeg), σ5))))) else (some ((0 : Int32), σ5)))) = some (r, σ') := hf
  intro H locs ls h hl
  have hx := B.1
  have hb := B.2.1
  obtain ⟨vr5, σ5, hq5, hf⟩ := wthn_some hf
  refine sRetC1 (g_runV (k := 44) (T := TX5) (N := 21) B h (ok_X5_refused B.2.2.2.2.2.2.2.2 B.2.2.2.2.2.2.1 _ _ vs1 hq5) cw_X5_95 ⟨Nat.le_of_ble_eq_true rfl, Nat.le_of_ble_eq_true rfl⟩ (by decide) (M_row _) rfl rfl hl.1.symm rfl (Nat.le_of_ble_eq_true rfl) dX5_end_26 ⟨Nat.zero_le _, Nat.zero_le _⟩) h (fun H locs h => ?_)
  refine lv_if_eq (tgt := 34) hx hb dX5_end_29 (by decide) (fun c6 => ?_) (fun c6 => ?_)
  · rw [if_pos c6] at hf
    refine lv_aload_n hx hb dX5_end_34 rfl (lv_at hl 0 rfl) ?_
    refine g_get B h 44 (by decide) (C := RX5) (T := TX5) (N := 21) (M_row _) rfl hin_X5 0 (by decide) hw829 rfl rfl dX5_end_35 ?_
    refine lv_bipush (v := (60 : Int32)) hx hb dX5_end_38 (by decide) ?_
    refine lv_iload_n hx hb dX5_end_40 rfl (lv_at hl 1 rfl) ?_
    refine lv_imul hx hb dX5_end_41 ?_
    refine lv_iload_n hx hb dX5_end_42 rfl (lv_at hl 2 rfl) ?_
    refine lv_if_eq (tgt := 57) hx hb dX5_end_43 (by decide) (fun c7 => ?_) (fun c7 => ?_)
    · rw [if_pos c7] at hf
      refine lv_iconst (v := (0 : Int32)) hx hb dX5_end_57 (by decide) ?_
      refine lv_iadd hx hb dX5_end_58 ?_
      obtain ⟨c8, hf⟩ := chk_some hf
      refine g_iald B h 45 (by decide) (n := 180) (fun _ => rfl) (inb_in c8) dX5_end_59 ?_
      cases hf
      exact sE_i B hr h dX5_end_60
    · rw [if_neg c7] at hf
      refine lv_aload_n hx hb dX5_end_46 rfl (lv_at hl 0 rfl) ?_
      refine g_get B h 44 (by decide) (C := RX5) (T := TX5) (N := 21) (M_row _) rfl hin_X5 2 (by decide) hw831 rfl rfl dX5_end_47 ?_
      refine lv_iload_n hx hb dX5_end_50 rfl (lv_at hl 1 rfl) ?_
      obtain ⟨c9, hf⟩ := chk_some hf
      refine g_iald B h 47 (by decide) (n := 3) (fun _ => rfl) (inb_in c9) dX5_end_51 ?_
      refine lv_iconst (v := (1 : Int32)) hx hb dX5_end_52 (by decide) ?_
      refine lv_isub hx hb dX5_end_53 ?_
      refine lv_goto (tgt := 58) hx hb dX5_end_54 (by decide) ?_
      refine lv_iadd hx hb dX5_end_58 ?_
      obtain ⟨c10, hf⟩ := chk_some hf
      refine g_iald B h 45 (by decide) (n := 180) (fun _ => rfl) (inb_in c10) dX5_end_59 ?_
      cases hf
      exact sE_i B hr h dX5_end_60
  · rw [if_neg c6] at hf
    refine lv_iconst (v := (0 : Int32)) hx hb dX5_end_32 (by decide) ?_
    cases hf
    exact sE_i B hr h dX5_end_33
set_option maxHeartbeats 4000000 in
set_option maxRecDepth 100000 in
theorem k_X5_end_0 {p : Program} {l : Launch} {e : Env} {s : State} {m : MethodId} {args : Array Value} {below : List Frame} {meth : Method} {c : Code} {D : va_G} {cy : Nat → ClassId} {ad : Nat → Nat} {X : sX} {r : Int32} {σ' : sM} (B : sB p l s m meth c args cX5_end 3 RX5 D cy ad) (hr : meth.sig.returnType = (some .int)) (v1 : Int32) (v2 : Int32) (σ : sM) (hf : f_X5_end v1 v2 σ = some (r, σ')) : sGo p l e { frames := 2, cells := 0, slots := 0, locals := 42 } s m args below meth c D cy ad X 3 (sQ below args s 0 0 D cy ad (.inr (some (.int r))) X σ') σ 0 [(0, .ref (ad 44)), (1, .int v1), (2, .int v2)] [] := by
  replace hf : (rthn (f_X5_isMap v1 σ) (fun vr1 => if vr1 = 0 then (b_X5_end_26 v1 v2 (1 : Int32) σ) else (chk (inb v1 3) (if (σ 47 (v1).toNatClampNeg) = 0 then (b_X5_end_26 v1 v2 (2 : Int32) σ) else (b_X5_end_26 v1 v2 (0 : Int32) σ))))) = some (r, σ') := hf
  intro H locs ls h hl
  have hx := B.1
  have hb := B.2.1
  refine lv_aload_n hx hb dX5_end_0 rfl (lv_at hl 0 rfl) ?_
  refine lv_iload_n hx hb dX5_end_1 rfl (lv_at hl 1 rfl) ?_
  obtain ⟨vr1, hq1, hf⟩ := rthn_some hf
  refine sRetC1 (g_runS B h (ok_X5_isMap B.2.2.2.2.2.2.2.2 B.2.2.2.2.2.2.1 _ _ v1 hq1) cw_X5_87 ⟨Nat.le_of_ble_eq_true rfl, Nat.le_of_ble_eq_true rfl⟩ rfl hl.1.symm rfl (Nat.le_of_ble_eq_true rfl) dX5_end_2 ⟨Nat.zero_le _, Nat.zero_le _⟩) h (fun H locs h => ?_)
  refine lv_if_ne (tgt := 12) hx hb dX5_end_5 (by decide) (fun c2 => ?_) (fun c2 => ?_)
  · rw [if_neg c2] at hf
    refine lv_aload_n hx hb dX5_end_12 rfl (lv_at hl 0 rfl) ?_
    refine g_get B h 44 (by decide) (C := RX5) (T := TX5) (N := 21) (M_row _) rfl hin_X5 2 (by decide) hw831 rfl rfl dX5_end_13 ?_
    refine lv_iload_n hx hb dX5_end_16 rfl (lv_at hl 1 rfl) ?_
    obtain ⟨c3, hf⟩ := chk_some hf
    refine g_iald B h 47 (by decide) (n := 3) (fun _ => rfl) (inb_in c3) dX5_end_17 ?_
    refine lv_if_ne (tgt := 25) hx hb dX5_end_18 (by decide) (fun c4 => ?_) (fun c4 => ?_)
    · rw [if_neg c4] at hf
      refine lv_iconst (v := (0 : Int32)) hx hb dX5_end_25 (by decide) ?_
      exact k_X5_end_26 B hr  _ _ _ _ hf _ _ _ h (lv_sub hl [0, 1, 2] rfl)
    · rw [if_pos c4] at hf
      refine lv_iconst (v := (2 : Int32)) hx hb dX5_end_21 (by decide) ?_
      refine lv_goto (tgt := 26) hx hb dX5_end_22 (by decide) ?_
      exact k_X5_end_26 B hr  _ _ _ _ hf _ _ _ h (lv_sub hl [0, 1, 2] rfl)
  · rw [if_pos c2] at hf
    refine lv_iconst (v := (1 : Int32)) hx hb dX5_end_8 (by decide) ?_
    refine lv_goto (tgt := 26) hx hb dX5_end_9 (by decide) ?_
    exact k_X5_end_26 B hr  _ _ _ _ hf _ _ _ h (lv_sub hl [0, 1, 2] rfl)
set_option maxRecDepth 100000 in
theorem ok_X5_end {l : Launch} (hl0 : l.stackTraces = false) {D : va_G} {cy : Nat → ClassId} {ad : Nat → Nat} (hap : sAp ad) (X : sX) (σ : sM) (v1 : Int32) (v2 : Int32) {r : Int32} {σ' : sM} (hf : f_X5_end v1 v2 σ = some (r, σ')) : sMet l yX5_end (sWs yX5_end cX5_end 3 (some .int)) 2 42 0 0 D cy ad X σ [.ref (ad 44), .int v1, .int v2] (.inr (some (.int r))) X σ' := by
  refine sMet_of (by decide +kernel) (Nat.le_of_ble_eq_true rfl) hap hl0 ?_
  intro p e s m args below meth c ls B hr htab hl h
  exact k_X5_end_0 B hr _ _ _  hf _ _ _ h hl
set_option maxHeartbeats 4000000 in
set_option maxRecDepth 100000 in
theorem k_X5_isHistory_0 {p : Program} {l : Launch} {e : Env} {s : State} {m : MethodId} {args : Array Value} {below : List Frame} {meth : Method} {c : Code} {D : va_G} {cy : Nat → ClassId} {ad : Nat → Nat} {X : sX} {r : Int32} (B : sB p l s m meth c args cX5_isHistory 1 RX5 D cy ad) (hr : meth.sig.returnType = (some .boolean)) (v0 : Int32) (σ : sM) (hf : f_X5_isHistory v0 σ = some r) : sGo p l e { frames := 1, cells := 0, slots := 0, locals := 22 } s m args below meth c D cy ad X 1 (sQ below args s 0 0 D cy ad (.inr (some (.int r))) X σ) σ 0 [(0, .int v0)] [] := by
  replace hf : (rthn (f_X5_in v0 (0 : Int32) (2 : Int32) σ) (fun vr1 => chk (isb vr1) (some vr1))) = some r := hf
  intro H locs ls h hl
  have hx := B.1
  have hb := B.2.1
  refine lv_iload_n hx hb dX5_isHistory_0 rfl (lv_at hl 0 rfl) ?_
  refine lv_iconst (v := (0 : Int32)) hx hb dX5_isHistory_1 (by decide) ?_
  refine lv_iconst (v := (2 : Int32)) hx hb dX5_isHistory_2 (by decide) ?_
  obtain ⟨vr1, hq1, hf⟩ := rthn_some hf
  refine sRetC1 (g_runS B h (ok_X5_in B.2.2.2.2.2.2.2.2 B.2.2.2.2.2.2.1 _ _ v0 (0 : Int32) (2 : Int32) hq1) cw_X5_64 ⟨Nat.le_of_ble_eq_true rfl, Nat.le_of_ble_eq_true rfl⟩ rfl hl.1.symm rfl (Nat.le_of_ble_eq_true rfl) dX5_isHistory_3 ⟨Nat.zero_le _, Nat.zero_le _⟩) h (fun H locs h => ?_)
  obtain ⟨c2, hf⟩ := chk_some hf
  cases hf
  exact sE_z B hr h (isb_n c2) dX5_isHistory_6
set_option maxRecDepth 100000 in
theorem ok_X5_isHistory {l : Launch} (hl0 : l.stackTraces = false) {D : va_G} {cy : Nat → ClassId} {ad : Nat → Nat} (hap : sAp ad) (X : sX) (σ : sM) (v0 : Int32) {r : Int32} (hf : f_X5_isHistory v0 σ = some r) : sMet l yX5_isHistory (sWs yX5_isHistory cX5_isHistory 1 (some .boolean)) 1 22 0 0 D cy ad X σ [.int v0] (.inr (some (.int r))) X σ := by
  refine sMet_of (by decide +kernel) (Nat.le_of_ble_eq_true rfl) hap hl0 ?_
  intro p e s m args below meth c ls B hr htab hl h
  exact k_X5_isHistory_0 B hr _ _  hf _ _ _ h hl
set_option maxHeartbeats 4000000 in
set_option maxRecDepth 100000 in
theorem k_X5_forget_13 {p : Program} {l : Launch} {e : Env} {s : State} {m : MethodId} {args : Array Value} {below : List Frame} {meth : Method} {c : Code} {D : va_G} {cy : Nat → ClassId} {ad : Nat → Nat} {X : sX} {r : Int32} {σ' : sM} (B : sB p l s m meth c args cX5_forget 3 RX5 D cy ad) (hr : meth.sig.returnType = (some .int)) (v1 : Int32) (vs1 : Int32) (σ : sM) (hf : b_X5_forget_13 v1 vs1 σ = some (r, σ')) : sGo p l e { frames := 2, cells := 0, slots := 0, locals := 42 } s m args below meth c D cy ad X 3 (sQ below args s 0 0 D cy ad (.inr (some (.int r))) X σ') σ 13 [(0, .ref (ad 44)), (1, .int v1)] [.int vs1, .ref (ad 44)] := by
  replace hf : (wthn (f_X5_refused vs1 σ) (fun vr3 σ3 => if vr3 = 0 then (chk (inb v1 3) (chk (inb v1 3) (stl (va_up σ3 58 (upd (σ3 58) (v1).toNatClampNeg (0 : Int32))) (fun σ7 => some ((σ3 58 (v1).toNatClampNeg), σ7))))) else (some ((0 : Int32), σ3)))) = some (r, σ') := hf
  intro H locs ls h hl
  have hx := B.1
  have hb := B.2.1
  obtain ⟨vr3, σ3, hq3, hf⟩ := wthn_some hf
  refine sRetC1 (g_runV (k := 44) (T := TX5) (N := 21) B h (ok_X5_refused B.2.2.2.2.2.2.2.2 B.2.2.2.2.2.2.1 _ _ vs1 hq3) cw_X5_95 ⟨Nat.le_of_ble_eq_true rfl, Nat.le_of_ble_eq_true rfl⟩ (by decide) (M_row _) rfl rfl hl.1.symm rfl (Nat.le_of_ble_eq_true rfl) dX5_forget_13 ⟨Nat.zero_le _, Nat.zero_le _⟩) h (fun H locs h => ?_)
  refine lv_if_eq (tgt := 21) hx hb dX5_forget_16 (by decide) (fun c4 => ?_) (fun c4 => ?_)
  · rw [if_pos c4] at hf
    refine lv_aload_n hx hb dX5_forget_21 rfl (lv_at hl 0 rfl) ?_
    refine g_get B h 44 (by decide) (C := RX5) (T := TX5) (N := 21) (M_row _) rfl hin_X5 13 (by decide) hw842 rfl rfl dX5_forget_22 ?_
    refine lv_iload_n hx hb dX5_forget_25 rfl (lv_at hl 1 rfl) ?_
    obtain ⟨c5, hf⟩ := chk_some hf
    refine g_iald B h 58 (by decide) (n := 3) (fun _ => rfl) (inb_in c5) dX5_forget_26 ?_
    refine lv_istore_n (lv' := [(2, .int (σ3 58 (v1).toNatClampNeg)), (0, .ref (ad 44)), (1, .int v1)]) hx hb dX5_forget_27 rfl hl (by decide) rfl (fun ls hl => ?_)
    refine lv_aload_n hx hb dX5_forget_28 rfl (lv_at hl 1 rfl) ?_
    refine g_get B h 44 (by decide) (C := RX5) (T := TX5) (N := 21) (M_row _) rfl hin_X5 13 (by decide) hw842 rfl rfl dX5_forget_29 ?_
    refine lv_iload_n hx hb dX5_forget_32 rfl (lv_at hl 2 rfl) ?_
    refine lv_iconst (v := (0 : Int32)) hx hb dX5_forget_33 (by decide) ?_
    obtain ⟨c6, hf⟩ := chk_some hf
    refine g_iast B h 58 (by decide) (n := 3) (fun _ => rfl) (inb_in c6) dX5_forget_34 (fun H locs h => ?_)
    obtain ⟨σ7, e7, hf⟩ := stl_some hf
    rw [← e7] at h
    refine lv_iload_n hx hb dX5_forget_35 rfl (lv_at hl 0 rfl) ?_
    cases hf
    exact sE_i B hr h dX5_forget_36
  · rw [if_neg c4] at hf
    refine lv_iconst (v := (0 : Int32)) hx hb dX5_forget_19 (by decide) ?_
    cases hf
    exact sE_i B hr h dX5_forget_20
set_option maxHeartbeats 4000000 in
set_option maxRecDepth 100000 in
theorem k_X5_forget_0 {p : Program} {l : Launch} {e : Env} {s : State} {m : MethodId} {args : Array Value} {below : List Frame} {meth : Method} {c : Code} {D : va_G} {cy : Nat → ClassId} {ad : Nat → Nat} {X : sX} {r : Int32} {σ' : sM} (B : sB p l s m meth c args cX5_forget 3 RX5 D cy ad) (hr : meth.sig.returnType = (some .int)) (v1 : Int32) (σ : sM) (hf : f_X5_forget v1 σ = some (r, σ')) : sGo p l e { frames := 2, cells := 0, slots := 0, locals := 42 } s m args below meth c D cy ad X 3 (sQ below args s 0 0 D cy ad (.inr (some (.int r))) X σ') σ 0 [(0, .ref (ad 44)), (1, .int v1)] [] := by
  replace hf : (rthn (f_X5_isHistory v1 σ) (fun vr1 => if vr1 = 0 then (b_X5_forget_13 v1 (1 : Int32) σ) else (b_X5_forget_13 v1 (0 : Int32) σ))) = some (r, σ') := hf
  intro H locs ls h hl
  have hx := B.1
  have hb := B.2.1
  refine lv_aload_n hx hb dX5_forget_0 rfl (lv_at hl 0 rfl) ?_
  refine lv_iload_n hx hb dX5_forget_1 rfl (lv_at hl 1 rfl) ?_
  obtain ⟨vr1, hq1, hf⟩ := rthn_some hf
  refine sRetC1 (g_runS B h (ok_X5_isHistory B.2.2.2.2.2.2.2.2 B.2.2.2.2.2.2.1 _ _ v1 hq1) cw_X5_136 ⟨Nat.le_of_ble_eq_true rfl, Nat.le_of_ble_eq_true rfl⟩ rfl hl.1.symm rfl (Nat.le_of_ble_eq_true rfl) dX5_forget_2 ⟨Nat.zero_le _, Nat.zero_le _⟩) h (fun H locs h => ?_)
  refine lv_if_ne (tgt := 12) hx hb dX5_forget_5 (by decide) (fun c2 => ?_) (fun c2 => ?_)
  · rw [if_neg c2] at hf
    refine lv_iconst (v := (0 : Int32)) hx hb dX5_forget_12 (by decide) ?_
    exact k_X5_forget_13 B hr  _ _ _ hf _ _ _ h (lv_sub hl [0, 1] rfl)
  · rw [if_pos c2] at hf
    refine lv_iconst (v := (1 : Int32)) hx hb dX5_forget_8 (by decide) ?_
    refine lv_goto (tgt := 13) hx hb dX5_forget_9 (by decide) ?_
    exact k_X5_forget_13 B hr  _ _ _ hf _ _ _ h (lv_sub hl [0, 1] rfl)
set_option maxRecDepth 100000 in
theorem ok_X5_forget {l : Launch} (hl0 : l.stackTraces = false) {D : va_G} {cy : Nat → ClassId} {ad : Nat → Nat} (hap : sAp ad) (X : sX) (σ : sM) (v1 : Int32) {r : Int32} {σ' : sM} (hf : f_X5_forget v1 σ = some (r, σ')) : sMet l yX5_forget (sWs yX5_forget cX5_forget 3 (some .int)) 2 42 0 0 D cy ad X σ [.ref (ad 44), .int v1] (.inr (some (.int r))) X σ' := by
  refine sMet_of (by decide +kernel) (Nat.le_of_ble_eq_true rfl) hap hl0 ?_
  intro p e s m args below meth c ls B hr htab hl h
  exact k_X5_forget_0 B hr _ _  hf _ _ _ h hl
set_option maxHeartbeats 4000000 in
set_option maxRecDepth 100000 in
theorem k_X5_fullShare_0 {p : Program} {l : Launch} {e : Env} {s : State} {m : MethodId} {args : Array Value} {below : List Frame} {meth : Method} {c : Code} {D : va_G} {cy : Nat → ClassId} {ad : Nat → Nat} {X : sX} {r : UInt32} {σ' : sM} (B : sB p l s m meth c args cX5_fullShare 2 RX5 D cy ad) (hr : meth.sig.returnType = (some .float)) (v1 : Int32) (σ : sM) (hf : f_X5_fullShare v1 σ = some (r, σ')) : sGo p l e { frames := 2, cells := 0, slots := 0, locals := 42 } s m args below meth c D cy ad X 2 (sQ below args s 0 0 D cy ad (.inr (some (.float r))) X σ') σ 0 [(0, .ref (ad 44)), (1, .int v1)] [] := by
  replace hf : (rthn (f_X5_isMap v1 σ) (fun vr1 => if vr1 = 0 then (wthn (f_X5_refused (1 : Int32) σ) (fun vr7 σ7 => if vr7 = 0 then (chk (inb v1 3) (chk (nn32 (FP.fdiv (FP.i2f (σ7 47 (v1).toNatClampNeg)) (1114636288 : UInt32))) (some ((FP.fdiv (FP.i2f (σ7 47 (v1).toNatClampNeg)) (1114636288 : UInt32)), σ7)))) else (some (FP.fconst0, σ7)))) else (wthn (f_X5_refused (0 : Int32) σ) (fun vr3 σ3 => if vr3 = 0 then (chk (inb v1 3) (chk (nn32 (FP.fdiv (FP.i2f (σ3 47 (v1).toNatClampNeg)) (1114636288 : UInt32))) (some ((FP.fdiv (FP.i2f (σ3 47 (v1).toNatClampNeg)) (1114636288 : UInt32)), σ3)))) else (some (FP.fconst0, σ3)))))) = some (r, σ') := hf
  intro H locs ls h hl
  have hx := B.1
  have hb := B.2.1
  refine lv_aload_n hx hb dX5_fullShare_0 rfl (lv_at hl 0 rfl) ?_
  refine lv_iload_n hx hb dX5_fullShare_1 rfl (lv_at hl 1 rfl) ?_
  obtain ⟨vr1, hq1, hf⟩ := rthn_some hf
  refine sRetC1 (g_runS B h (ok_X5_isMap B.2.2.2.2.2.2.2.2 B.2.2.2.2.2.2.1 _ _ v1 hq1) cw_X5_87 ⟨Nat.le_of_ble_eq_true rfl, Nat.le_of_ble_eq_true rfl⟩ rfl hl.1.symm rfl (Nat.le_of_ble_eq_true rfl) dX5_fullShare_2 ⟨Nat.zero_le _, Nat.zero_le _⟩) h (fun H locs h => ?_)
  refine lv_if_ne (tgt := 12) hx hb dX5_fullShare_5 (by decide) (fun c2 => ?_) (fun c2 => ?_)
  · rw [if_neg c2] at hf
    refine lv_iconst (v := (0 : Int32)) hx hb dX5_fullShare_12 (by decide) ?_
    obtain ⟨vr3, σ3, hq3, hf⟩ := wthn_some hf
    refine sRetC1 (g_runV (k := 44) (T := TX5) (N := 21) B h (ok_X5_refused B.2.2.2.2.2.2.2.2 B.2.2.2.2.2.2.1 _ _ (0 : Int32) hq3) cw_X5_95 ⟨Nat.le_of_ble_eq_true rfl, Nat.le_of_ble_eq_true rfl⟩ (by decide) (M_row _) rfl rfl hl.1.symm rfl (Nat.le_of_ble_eq_true rfl) dX5_fullShare_13 ⟨Nat.zero_le _, Nat.zero_le _⟩) h (fun H locs h => ?_)
    refine lv_if_eq (tgt := 23) hx hb dX5_fullShare_16 (by decide) (fun c4 => ?_) (fun c4 => ?_)
    · rw [if_pos c4] at hf
      refine lv_aload_n hx hb dX5_fullShare_23 rfl (lv_at hl 0 rfl) ?_
      refine g_get B h 44 (by decide) (C := RX5) (T := TX5) (N := 21) (M_row _) rfl hin_X5 2 (by decide) hw831 rfl rfl dX5_fullShare_24 ?_
      refine lv_iload_n hx hb dX5_fullShare_27 rfl (lv_at hl 1 rfl) ?_
      obtain ⟨c5, hf⟩ := chk_some hf
      refine g_iald B h 47 (by decide) (n := 3) (fun _ => rfl) (inb_in c5) dX5_fullShare_28 ?_
      refine lv_i2f hx hb dX5_fullShare_29 ?_
      refine lv_ldcf (own := RX5) (v := (1114636288 : UInt32)) hx hb B.2.2.2.1 (B.2.2.2.2.1 _ hw1112) dX5_fullShare_30 ?_
      obtain ⟨c6, hf⟩ := chk_some hf
      refine lv_fdiv hx hb dX5_fullShare_32 (nn32_n c6) ?_
      cases hf
      exact sE_f B hr h dX5_fullShare_33
    · rw [if_neg c4] at hf
      refine lv_fconst0 hx hb dX5_fullShare_19 ?_
      refine lv_goto (tgt := 33) hx hb dX5_fullShare_20 (by decide) ?_
      cases hf
      exact sE_f B hr h dX5_fullShare_33
  · rw [if_pos c2] at hf
    refine lv_iconst (v := (1 : Int32)) hx hb dX5_fullShare_8 (by decide) ?_
    refine lv_goto (tgt := 13) hx hb dX5_fullShare_9 (by decide) ?_
    obtain ⟨vr7, σ7, hq7, hf⟩ := wthn_some hf
    refine sRetC1 (g_runV (k := 44) (T := TX5) (N := 21) B h (ok_X5_refused B.2.2.2.2.2.2.2.2 B.2.2.2.2.2.2.1 _ _ (1 : Int32) hq7) cw_X5_95 ⟨Nat.le_of_ble_eq_true rfl, Nat.le_of_ble_eq_true rfl⟩ (by decide) (M_row _) rfl rfl hl.1.symm rfl (Nat.le_of_ble_eq_true rfl) dX5_fullShare_13 ⟨Nat.zero_le _, Nat.zero_le _⟩) h (fun H locs h => ?_)
    refine lv_if_eq (tgt := 23) hx hb dX5_fullShare_16 (by decide) (fun c8 => ?_) (fun c8 => ?_)
    · rw [if_pos c8] at hf
      refine lv_aload_n hx hb dX5_fullShare_23 rfl (lv_at hl 0 rfl) ?_
      refine g_get B h 44 (by decide) (C := RX5) (T := TX5) (N := 21) (M_row _) rfl hin_X5 2 (by decide) hw831 rfl rfl dX5_fullShare_24 ?_
      refine lv_iload_n hx hb dX5_fullShare_27 rfl (lv_at hl 1 rfl) ?_
      obtain ⟨c9, hf⟩ := chk_some hf
      refine g_iald B h 47 (by decide) (n := 3) (fun _ => rfl) (inb_in c9) dX5_fullShare_28 ?_
      refine lv_i2f hx hb dX5_fullShare_29 ?_
      refine lv_ldcf (own := RX5) (v := (1114636288 : UInt32)) hx hb B.2.2.2.1 (B.2.2.2.2.1 _ hw1112) dX5_fullShare_30 ?_
      obtain ⟨c10, hf⟩ := chk_some hf
      refine lv_fdiv hx hb dX5_fullShare_32 (nn32_n c10) ?_
      cases hf
      exact sE_f B hr h dX5_fullShare_33
    · rw [if_neg c8] at hf
      refine lv_fconst0 hx hb dX5_fullShare_19 ?_
      refine lv_goto (tgt := 33) hx hb dX5_fullShare_20 (by decide) ?_
      cases hf
      exact sE_f B hr h dX5_fullShare_33
set_option maxRecDepth 100000 in
theorem ok_X5_fullShare {l : Launch} (hl0 : l.stackTraces = false) {D : va_G} {cy : Nat → ClassId} {ad : Nat → Nat} (hap : sAp ad) (X : sX) (σ : sM) (v1 : Int32) {r : UInt32} {σ' : sM} (hf : f_X5_fullShare v1 σ = some (r, σ')) : sMet l yX5_fullShare (sWs yX5_fullShare cX5_fullShare 2 (some .float)) 2 42 0 0 D cy ad X σ [.ref (ad 44), .int v1] (.inr (some (.float r))) X σ' := by
  refine sMet_of (by decide +kernel) (Nat.le_of_ble_eq_true rfl) hap hl0 ?_
  intro p e s m args below meth c ls B hr htab hl h
  exact k_X5_fullShare_0 B hr _ _  hf _ _ _ h hl
set_option maxHeartbeats 4000000 in
set_option maxRecDepth 100000 in
theorem k_X5_gathers_108 {p : Program} {l : Launch} {e : Env} {s : State} {m : MethodId} {args : Array Value} {below : List Frame} {meth : Method} {c : Code} {D : va_G} {cy : Nat → ClassId} {ad : Nat → Nat} {X : sX} {r : Unit} {σ' : sM} (B : sB p l s m meth c args cX5_gathers 8 RX5 D cy ad) (hr : meth.sig.returnType = none) {K2 : Int32 → Int32 → Int32 → sM → Option (Unit × sM)} (hK2 : ∀ (v1 : Int32) (v2 : Int32) (v3 : Int32) (σ : sM), K2 v1 v2 v3 σ = some (r, σ') → sGo p l e { frames := 2, cells := 0, slots := 0, locals := 45 } s m args below meth c D cy ad X 8 (sQ below args s 0 0 D cy ad (.inr none) X σ') σ 2 [(0, .ref (ad 44)), (1, .int v1), (2, .int v2), (3, .int v3)] []) : ∀ (n : Nat) (v1 : Int32) (v2 : Int32) (v3 : Int32) (v4 : Int32) (v5 : Int32) (v7 : Int32) (σ : sM), b_X5_gathers_108 K2 n v1 v2 v3 v4 v5 v7 σ = some (r, σ') → sGo p l e { frames := 2, cells := 0, slots := 0, locals := 45 } s m args below meth c D cy ad X 8 (sQ below args s 0 0 D cy ad (.inr none) X σ') σ 108 [(0, .ref (ad 44)), (1, .int v1), (2, .int v2), (3, .int v3), (4, .int v4), (5, .int v5), (7, .int v7)] [] := by
  intro n
  induction n with
  | zero =>
    intro v1 v2 v3 v4 v5 v7 σ hf
    exact nomatch (show none = some (r, σ') from hf)
  | succ n ih =>
    intro v1 v2 v3 v4 v5 v7 σ hf
    replace hf : (if v7 ≤ v5 then (chk (inb v5 60) (stl (va_up σ 59 (upd (σ 59) (v5).toNatClampNeg v4)) (fun σ16 => stl (va_up σ16 44 (upd (σ16 44) 15 ((σ16 44 15) + (1 : Int32)))) (fun σ17 => K2 v1 v2 (v3 + 1) σ17)))) else (chk (inb (v7 - (1 : Int32)) 60) (chk (inb v7 60) (stl (va_up σ 59 (upd (σ 59) (v7).toNatClampNeg (σ 59 ((v7 - (1 : Int32))).toNatClampNeg))) (fun σ20 => b_X5_gathers_108 K2 n v1 v2 v3 v4 v5 (v7 + (-1)) σ20))))) = some (r, σ') := hf
    intro H locs ls h hl
    have hx := B.1
    have hb := B.2.1
    refine lv_iload hx hb dX5_gathers_108 (lv_at hl 6 rfl) ?_
    refine lv_iload hx hb dX5_gathers_110 (lv_at hl 5 rfl) ?_
    refine lv_icmp_le (tgt := 137) hx hb dX5_gathers_112 (by decide) (fun c14 => ?_) (fun c14 => ?_)
    · rw [if_pos c14] at hf
      refine lv_aload_n hx hb dX5_gathers_137 rfl (lv_at hl 0 rfl) ?_
      refine g_get B h 44 (by decide) (C := RX5) (T := TX5) (N := 21) (M_row _) rfl hin_X5 14 (by decide) hw843 rfl rfl dX5_gathers_138 ?_
      refine lv_iload hx hb dX5_gathers_141 (lv_at hl 5 rfl) ?_
      refine lv_iload hx hb dX5_gathers_143 (lv_at hl 4 rfl) ?_
      obtain ⟨c15, hf⟩ := chk_some hf
      refine g_iast B h 59 (by decide) (n := 60) (fun _ => rfl) (inb_in c15) dX5_gathers_145 (fun H locs h => ?_)
      obtain ⟨σ16, e16, hf⟩ := stl_some hf
      rw [← e16] at h
      refine lv_aload_n hx hb dX5_gathers_146 rfl (lv_at hl 0 rfl) ?_
      refine lv_dup hx hb dX5_gathers_147 rfl ?_
      refine g_get B h 44 (by decide) (C := RX5) (T := TX5) (N := 21) (M_row _) rfl hin_X5 15 (by decide) hw844 rfl rfl dX5_gathers_148 ?_
      refine lv_iconst (v := (1 : Int32)) hx hb dX5_gathers_151 (by decide) ?_
      refine lv_iadd hx hb dX5_gathers_152 ?_
      refine g_put B h 44 (by decide) (C := RX5) (T := TX5) (N := 21) (M_row _) rfl hin_X5 tyX5 tyX5_ok nmX5 15 (by decide) hw844 rfl rfl rfl rfl (upd (σ16 44) 15 ((σ16 44 15) + (1 : Int32))) (M_put15 _ _) (Nat.le_of_ble_eq_true rfl) dX5_gathers_153 (fun H locs h => ?_)
      obtain ⟨σ17, e17, hf⟩ := stl_some hf
      rw [← e17] at h
      refine lv_iinc (v := (v3 + 1)) (lv' := [(3, .int (v3 + 1)), (0, .ref (ad 44)), (1, .int v1), (2, .int v2), (4, .int v4), (5, .int v5), (7, .int v7)]) hx hb dX5_gathers_156 hl (k := 3) rfl rfl (by decide) rfl (fun ls hl => ?_)
      refine lv_goto (tgt := 2) hx hb dX5_gathers_159 (by decide) ?_
      exact hK2 _ _ _ _ hf _ _ _ h (lv_sub hl [1, 2, 3, 0] rfl)
    · rw [if_neg c14] at hf
      refine lv_aload_n hx hb dX5_gathers_115 rfl (lv_at hl 0 rfl) ?_
      refine g_get B h 44 (by decide) (C := RX5) (T := TX5) (N := 21) (M_row _) rfl hin_X5 14 (by decide) hw843 rfl rfl dX5_gathers_116 ?_
      refine lv_iload hx hb dX5_gathers_119 (lv_at hl 6 rfl) ?_
      refine lv_aload_n hx hb dX5_gathers_121 rfl (lv_at hl 0 rfl) ?_
      refine g_get B h 44 (by decide) (C := RX5) (T := TX5) (N := 21) (M_row _) rfl hin_X5 14 (by decide) hw843 rfl rfl dX5_gathers_122 ?_
      refine lv_iload hx hb dX5_gathers_125 (lv_at hl 6 rfl) ?_
      refine lv_iconst (v := (1 : Int32)) hx hb dX5_gathers_127 (by decide) ?_
      refine lv_isub hx hb dX5_gathers_128 ?_
      obtain ⟨c18, hf⟩ := chk_some hf
      refine g_iald B h 59 (by decide) (n := 60) (fun _ => rfl) (inb_in c18) dX5_gathers_129 ?_
      obtain ⟨c19, hf⟩ := chk_some hf
      refine g_iast B h 59 (by decide) (n := 60) (fun _ => rfl) (inb_in c19) dX5_gathers_130 (fun H locs h => ?_)
      obtain ⟨σ20, e20, hf⟩ := stl_some hf
      rw [← e20] at h
      refine lv_iinc (v := (v7 + (-1))) (lv' := [(7, .int (v7 + (-1))), (0, .ref (ad 44)), (1, .int v1), (2, .int v2), (3, .int v3), (4, .int v4), (5, .int v5)]) hx hb dX5_gathers_131 hl (k := 6) rfl rfl (by decide) rfl (fun ls hl => ?_)
      refine lv_goto (tgt := 108) hx hb dX5_gathers_134 (by decide) ?_
      exact ih _ _ _ _ _ _ _ hf _ _ _ h (lv_sub hl [1, 2, 3, 4, 5, 6, 0] rfl)
set_option maxHeartbeats 4000000 in
set_option maxRecDepth 100000 in
theorem k_X5_gathers_81 {p : Program} {l : Launch} {e : Env} {s : State} {m : MethodId} {args : Array Value} {below : List Frame} {meth : Method} {c : Code} {D : va_G} {cy : Nat → ClassId} {ad : Nat → Nat} {X : sX} {r : Unit} {σ' : sM} (B : sB p l s m meth c args cX5_gathers 8 RX5 D cy ad) (hr : meth.sig.returnType = none) {K2 : Int32 → Int32 → Int32 → sM → Option (Unit × sM)} (hK2 : ∀ (v1 : Int32) (v2 : Int32) (v3 : Int32) (σ : sM), K2 v1 v2 v3 σ = some (r, σ') → sGo p l e { frames := 2, cells := 0, slots := 0, locals := 45 } s m args below meth c D cy ad X 8 (sQ below args s 0 0 D cy ad (.inr none) X σ') σ 2 [(0, .ref (ad 44)), (1, .int v1), (2, .int v2), (3, .int v3)] []) (v1 : Int32) (v2 : Int32) (v3 : Int32) (v4 : Int32) (v5 : Int32) (vs0 : Int32) (σ : sM) (hf : b_X5_gathers_81 K2 v1 v2 v3 v4 v5 vs0 σ = some (r, σ')) : sGo p l e { frames := 2, cells := 0, slots := 0, locals := 45 } s m args below meth c D cy ad X 8 (sQ below args s 0 0 D cy ad (.inr none) X σ') σ 81 [(0, .ref (ad 44)), (1, .int v1), (2, .int v2), (3, .int v3), (4, .int v4), (5, .int v5)] [.int vs0] := by
  replace hf : (if vs0 = 0 then (if v2 < 0 then (b_X5_gathers_108 K2 FU v1 v2 v3 v4 v5 (σ 44 15) σ) else (rthn (f_X5_has v2 v4 σ) (fun vr12 => if vr12 = 0 then (b_X5_gathers_108 K2 FU v1 v2 v3 v4 v5 (σ 44 15) σ) else (K2 v1 v2 (v3 + 1) σ)))) else (K2 v1 v2 (v3 + 1) σ)) = some (r, σ') := hf
  intro H locs ls h hl
  have hx := B.1
  have hb := B.2.1
  refine lv_istore (lv' := [(6, .int vs0), (0, .ref (ad 44)), (1, .int v1), (2, .int v2), (3, .int v3), (4, .int v4), (5, .int v5)]) hx hb dX5_gathers_81 hl (by decide) rfl (fun ls hl => ?_)
  refine lv_iload hx hb dX5_gathers_83 (lv_at hl 0 rfl) ?_
  refine lv_if_ne (tgt := 156) hx hb dX5_gathers_85 (by decide) (fun c10 => ?_) (fun c10 => ?_)
  · rw [if_neg c10] at hf
    refine lv_iinc (v := (v3 + 1)) (lv' := [(3, .int (v3 + 1)), (6, .int vs0), (0, .ref (ad 44)), (1, .int v1), (2, .int v2), (4, .int v4), (5, .int v5)]) hx hb dX5_gathers_156 hl (k := 4) rfl rfl (by decide) rfl (fun ls hl => ?_)
    refine lv_goto (tgt := 2) hx hb dX5_gathers_159 (by decide) ?_
    exact hK2 _ _ _ _ hf _ _ _ h (lv_sub hl [2, 3, 4, 0] rfl)
  · rw [if_pos c10] at hf
    refine lv_iload_n hx hb dX5_gathers_88 rfl (lv_at hl 3 rfl) ?_
    refine lv_if_lt (tgt := 102) hx hb dX5_gathers_89 (by decide) (fun c11 => ?_) (fun c11 => ?_)
    · rw [if_pos c11] at hf
      refine lv_aload_n hx hb dX5_gathers_102 rfl (lv_at hl 1 rfl) ?_
      refine g_get B h 44 (by decide) (C := RX5) (T := TX5) (N := 21) (M_row _) rfl hin_X5 15 (by decide) hw844 rfl rfl dX5_gathers_103 ?_
      refine lv_istore (lv' := [(7, .int (σ 44 15)), (6, .int vs0), (0, .ref (ad 44)), (1, .int v1), (2, .int v2), (3, .int v3), (4, .int v4), (5, .int v5)]) hx hb dX5_gathers_106 hl (by decide) rfl (fun ls hl => ?_)
      exact k_X5_gathers_108 B hr hK2 _ _ _ _ _ _ _ _ hf _ _ _ h (lv_sub hl [2, 3, 4, 5, 6, 7, 0] rfl)
    · rw [if_neg c11] at hf
      refine lv_aload_n hx hb dX5_gathers_92 rfl (lv_at hl 1 rfl) ?_
      refine lv_iload_n hx hb dX5_gathers_93 rfl (lv_at hl 3 rfl) ?_
      refine lv_iload hx hb dX5_gathers_94 (lv_at hl 5 rfl) ?_
      obtain ⟨vr12, hq12, hf⟩ := rthn_some hf
      refine sRetC1 (g_runV (k := 44) (T := TX5) (N := 21) B h (ok_X5_has B.2.2.2.2.2.2.2.2 B.2.2.2.2.2.2.1 _ _ v2 v4 hq12) cw_X5_91 ⟨Nat.le_of_ble_eq_true rfl, Nat.le_of_ble_eq_true rfl⟩ (by decide) (M_row _) rfl rfl hl.1.symm rfl (Nat.le_of_ble_eq_true rfl) dX5_gathers_96 ⟨Nat.zero_le _, Nat.zero_le _⟩) h (fun H locs h => ?_)
      refine lv_if_ne (tgt := 156) hx hb dX5_gathers_99 (by decide) (fun c13 => ?_) (fun c13 => ?_)
      · rw [if_neg c13] at hf
        refine lv_iinc (v := (v3 + 1)) (lv' := [(3, .int (v3 + 1)), (6, .int vs0), (0, .ref (ad 44)), (1, .int v1), (2, .int v2), (4, .int v4), (5, .int v5)]) hx hb dX5_gathers_156 hl (k := 4) rfl rfl (by decide) rfl (fun ls hl => ?_)
        refine lv_goto (tgt := 2) hx hb dX5_gathers_159 (by decide) ?_
        exact hK2 _ _ _ _ hf _ _ _ h (lv_sub hl [2, 3, 4, 0] rfl)
      · rw [if_pos c13] at hf
        refine lv_aload_n hx hb dX5_gathers_102 rfl (lv_at hl 1 rfl) ?_
        refine g_get B h 44 (by decide) (C := RX5) (T := TX5) (N := 21) (M_row _) rfl hin_X5 15 (by decide) hw844 rfl rfl dX5_gathers_103 ?_
        refine lv_istore (lv' := [(7, .int (σ 44 15)), (6, .int vs0), (0, .ref (ad 44)), (1, .int v1), (2, .int v2), (3, .int v3), (4, .int v4), (5, .int v5)]) hx hb dX5_gathers_106 hl (by decide) rfl (fun ls hl => ?_)
        exact k_X5_gathers_108 B hr hK2 _ _ _ _ _ _ _ _ hf _ _ _ h (lv_sub hl [2, 3, 4, 5, 6, 7, 0] rfl)
set_option maxHeartbeats 4000000 in
set_option maxRecDepth 100000 in
theorem k_X5_gathers_55 {p : Program} {l : Launch} {e : Env} {s : State} {m : MethodId} {args : Array Value} {below : List Frame} {meth : Method} {c : Code} {D : va_G} {cy : Nat → ClassId} {ad : Nat → Nat} {X : sX} {r : Unit} {σ' : sM} (B : sB p l s m meth c args cX5_gathers 8 RX5 D cy ad) (hr : meth.sig.returnType = none) {K2 : Int32 → Int32 → Int32 → sM → Option (Unit × sM)} (hK2 : ∀ (v1 : Int32) (v2 : Int32) (v3 : Int32) (σ : sM), K2 v1 v2 v3 σ = some (r, σ') → sGo p l e { frames := 2, cells := 0, slots := 0, locals := 45 } s m args below meth c D cy ad X 8 (sQ below args s 0 0 D cy ad (.inr none) X σ') σ 2 [(0, .ref (ad 44)), (1, .int v1), (2, .int v2), (3, .int v3)] []) (v1 : Int32) (v2 : Int32) (v3 : Int32) (v4 : Int32) (v5 : Int32) (σ : sM) (hf : b_X5_gathers_55 K2 v1 v2 v3 v4 v5 σ = some (r, σ')) : sGo p l e { frames := 2, cells := 0, slots := 0, locals := 45 } s m args below meth c D cy ad X 8 (sQ below args s 0 0 D cy ad (.inr none) X σ') σ 55 [(0, .ref (ad 44)), (1, .int v1), (2, .int v2), (3, .int v3), (4, .int v4), (5, .int v5)] [] := by
  replace hf : (if (σ 44 15) ≤ v5 then (b_X5_gathers_81 K2 v1 v2 v3 v4 v5 (0 : Int32) σ) else (chk (inb v5 60) (if (σ 59 (v5).toNatClampNeg) = v4 then (b_X5_gathers_81 K2 v1 v2 v3 v4 v5 (1 : Int32) σ) else (b_X5_gathers_81 K2 v1 v2 v3 v4 v5 (0 : Int32) σ)))) = some (r, σ') := hf
  intro H locs ls h hl
  have hx := B.1
  have hb := B.2.1
  refine lv_iload hx hb dX5_gathers_55 (lv_at hl 5 rfl) ?_
  refine lv_aload_n hx hb dX5_gathers_57 rfl (lv_at hl 0 rfl) ?_
  refine g_get B h 44 (by decide) (C := RX5) (T := TX5) (N := 21) (M_row _) rfl hin_X5 15 (by decide) hw844 rfl rfl dX5_gathers_58 ?_
  refine lv_icmp_ge (tgt := 80) hx hb dX5_gathers_61 (by decide) (fun c7 => ?_) (fun c7 => ?_)
  · rw [if_pos c7] at hf
    refine lv_iconst (v := (0 : Int32)) hx hb dX5_gathers_80 (by decide) ?_
    exact k_X5_gathers_81 B hr hK2 _ _ _ _ _ _ _ hf _ _ _ h (lv_sub hl [0, 1, 2, 3, 4, 5] rfl)
  · rw [if_neg c7] at hf
    refine lv_aload_n hx hb dX5_gathers_64 rfl (lv_at hl 0 rfl) ?_
    refine g_get B h 44 (by decide) (C := RX5) (T := TX5) (N := 21) (M_row _) rfl hin_X5 14 (by decide) hw843 rfl rfl dX5_gathers_65 ?_
    refine lv_iload hx hb dX5_gathers_68 (lv_at hl 5 rfl) ?_
    obtain ⟨c8, hf⟩ := chk_some hf
    refine g_iald B h 59 (by decide) (n := 60) (fun _ => rfl) (inb_in c8) dX5_gathers_70 ?_
    refine lv_iload hx hb dX5_gathers_71 (lv_at hl 4 rfl) ?_
    refine lv_icmp_ne (tgt := 80) hx hb dX5_gathers_73 (by decide) (fun c9 => ?_) (fun c9 => ?_)
    · rw [if_neg c9] at hf
      refine lv_iconst (v := (0 : Int32)) hx hb dX5_gathers_80 (by decide) ?_
      exact k_X5_gathers_81 B hr hK2 _ _ _ _ _ _ _ hf _ _ _ h (lv_sub hl [0, 1, 2, 3, 4, 5] rfl)
    · rw [if_pos c9] at hf
      refine lv_iconst (v := (1 : Int32)) hx hb dX5_gathers_76 (by decide) ?_
      refine lv_goto (tgt := 81) hx hb dX5_gathers_77 (by decide) ?_
      exact k_X5_gathers_81 B hr hK2 _ _ _ _ _ _ _ hf _ _ _ h (lv_sub hl [0, 1, 2, 3, 4, 5] rfl)
set_option maxHeartbeats 4000000 in
set_option maxRecDepth 100000 in
theorem k_X5_gathers_28 {p : Program} {l : Launch} {e : Env} {s : State} {m : MethodId} {args : Array Value} {below : List Frame} {meth : Method} {c : Code} {D : va_G} {cy : Nat → ClassId} {ad : Nat → Nat} {X : sX} {r : Unit} {σ' : sM} (B : sB p l s m meth c args cX5_gathers 8 RX5 D cy ad) (hr : meth.sig.returnType = none) {K2 : Int32 → Int32 → Int32 → sM → Option (Unit × sM)} (hK2 : ∀ (v1 : Int32) (v2 : Int32) (v3 : Int32) (σ : sM), K2 v1 v2 v3 σ = some (r, σ') → sGo p l e { frames := 2, cells := 0, slots := 0, locals := 45 } s m args below meth c D cy ad X 8 (sQ below args s 0 0 D cy ad (.inr none) X σ') σ 2 [(0, .ref (ad 44)), (1, .int v1), (2, .int v2), (3, .int v3)] []) : ∀ (n : Nat) (v1 : Int32) (v2 : Int32) (v3 : Int32) (v4 : Int32) (v5 : Int32) (σ : sM), b_X5_gathers_28 K2 n v1 v2 v3 v4 v5 σ = some (r, σ') → sGo p l e { frames := 2, cells := 0, slots := 0, locals := 45 } s m args below meth c D cy ad X 8 (sQ below args s 0 0 D cy ad (.inr none) X σ') σ 28 [(0, .ref (ad 44)), (1, .int v1), (2, .int v2), (3, .int v3), (4, .int v4), (5, .int v5)] [] := by
  intro n
  induction n with
  | zero =>
    intro v1 v2 v3 v4 v5 σ hf
    exact nomatch (show none = some (r, σ') from hf)
  | succ n ih =>
    intro v1 v2 v3 v4 v5 σ hf
    replace hf : (if (σ 44 15) ≤ v5 then (b_X5_gathers_55 K2 v1 v2 v3 v4 v5 σ) else (chk (inb v5 60) (if v4 ≤ (σ 59 (v5).toNatClampNeg) then (b_X5_gathers_55 K2 v1 v2 v3 v4 v5 σ) else (b_X5_gathers_28 K2 n v1 v2 v3 v4 (v5 + 1) σ)))) = some (r, σ') := hf
    intro H locs ls h hl
    have hx := B.1
    have hb := B.2.1
    refine lv_iload hx hb dX5_gathers_28 (lv_at hl 5 rfl) ?_
    refine lv_aload_n hx hb dX5_gathers_30 rfl (lv_at hl 0 rfl) ?_
    refine g_get B h 44 (by decide) (C := RX5) (T := TX5) (N := 21) (M_row _) rfl hin_X5 15 (by decide) hw844 rfl rfl dX5_gathers_31 ?_
    refine lv_icmp_ge (tgt := 55) hx hb dX5_gathers_34 (by decide) (fun c4 => ?_) (fun c4 => ?_)
    · rw [if_pos c4] at hf
      exact k_X5_gathers_55 B hr hK2 _ _ _ _ _ _ hf _ _ _ h (lv_sub hl [0, 1, 2, 3, 4, 5] rfl)
    · rw [if_neg c4] at hf
      refine lv_aload_n hx hb dX5_gathers_37 rfl (lv_at hl 0 rfl) ?_
      refine g_get B h 44 (by decide) (C := RX5) (T := TX5) (N := 21) (M_row _) rfl hin_X5 14 (by decide) hw843 rfl rfl dX5_gathers_38 ?_
      refine lv_iload hx hb dX5_gathers_41 (lv_at hl 5 rfl) ?_
      obtain ⟨c5, hf⟩ := chk_some hf
      refine g_iald B h 59 (by decide) (n := 60) (fun _ => rfl) (inb_in c5) dX5_gathers_43 ?_
      refine lv_iload hx hb dX5_gathers_44 (lv_at hl 4 rfl) ?_
      refine lv_icmp_ge (tgt := 55) hx hb dX5_gathers_46 (by decide) (fun c6 => ?_) (fun c6 => ?_)
      · rw [if_pos c6] at hf
        exact k_X5_gathers_55 B hr hK2 _ _ _ _ _ _ hf _ _ _ h (lv_sub hl [0, 1, 2, 3, 4, 5] rfl)
      · rw [if_neg c6] at hf
        refine lv_iinc (v := (v5 + 1)) (lv' := [(5, .int (v5 + 1)), (0, .ref (ad 44)), (1, .int v1), (2, .int v2), (3, .int v3), (4, .int v4)]) hx hb dX5_gathers_49 hl (k := 5) rfl rfl (by decide) rfl (fun ls hl => ?_)
        refine lv_goto (tgt := 28) hx hb dX5_gathers_52 (by decide) ?_
        exact ih _ _ _ _ _ _ hf _ _ _ h (lv_sub hl [1, 2, 3, 4, 5, 0] rfl)
set_option maxHeartbeats 4000000 in
set_option maxRecDepth 100000 in
theorem k_X5_gathers_2 {p : Program} {l : Launch} {e : Env} {s : State} {m : MethodId} {args : Array Value} {below : List Frame} {meth : Method} {c : Code} {D : va_G} {cy : Nat → ClassId} {ad : Nat → Nat} {X : sX} {r : Unit} {σ' : sM} (B : sB p l s m meth c args cX5_gathers 8 RX5 D cy ad) (hr : meth.sig.returnType = none) : ∀ (n : Nat) (v1 : Int32) (v2 : Int32) (v3 : Int32) (σ : sM), b_X5_gathers_2 n v1 v2 v3 σ = some (r, σ') → sGo p l e { frames := 2, cells := 0, slots := 0, locals := 45 } s m args below meth c D cy ad X 8 (sQ below args s 0 0 D cy ad (.inr none) X σ') σ 2 [(0, .ref (ad 44)), (1, .int v1), (2, .int v2), (3, .int v3)] [] := by
  intro n
  induction n with
  | zero =>
    intro v1 v2 v3 σ hf
    exact nomatch (show none = some (r, σ') from hf)
  | succ n ih =>
    intro v1 v2 v3 σ hf
    replace hf : (chk (inb v1 3) (if (σ 58 (v1).toNatClampNeg) ≤ v3 then (some ((), σ)) else (chk (inb (((30 : Int32) * v1) + v3) 90) (b_X5_gathers_28 (b_X5_gathers_2 n) FU v1 v2 v3 (σ 56 ((((30 : Int32) * v1) + v3)).toNatClampNeg) (0 : Int32) σ)))) = some (r, σ') := hf
    intro H locs ls h hl
    have hx := B.1
    have hb := B.2.1
    refine lv_iload_n hx hb dX5_gathers_2 rfl (lv_at hl 3 rfl) ?_
    refine lv_aload_n hx hb dX5_gathers_3 rfl (lv_at hl 0 rfl) ?_
    refine g_get B h 44 (by decide) (C := RX5) (T := TX5) (N := 21) (M_row _) rfl hin_X5 13 (by decide) hw842 rfl rfl dX5_gathers_4 ?_
    refine lv_iload_n hx hb dX5_gathers_7 rfl (lv_at hl 1 rfl) ?_
    obtain ⟨c1, hf⟩ := chk_some hf
    refine g_iald B h 58 (by decide) (n := 3) (fun _ => rfl) (inb_in c1) dX5_gathers_8 ?_
    refine lv_icmp_ge (tgt := 162) hx hb dX5_gathers_9 (by decide) (fun c2 => ?_) (fun c2 => ?_)
    · rw [if_pos c2] at hf
      cases hf
      exact sE_v B hr h dX5_gathers_162
    · rw [if_neg c2] at hf
      refine lv_aload_n hx hb dX5_gathers_12 rfl (lv_at hl 0 rfl) ?_
      refine g_get B h 44 (by decide) (C := RX5) (T := TX5) (N := 21) (M_row _) rfl hin_X5 11 (by decide) hw840 rfl rfl dX5_gathers_13 ?_
      refine lv_bipush (v := (30 : Int32)) hx hb dX5_gathers_16 (by decide) ?_
      refine lv_iload_n hx hb dX5_gathers_18 rfl (lv_at hl 1 rfl) ?_
      refine lv_imul hx hb dX5_gathers_19 ?_
      refine lv_iload_n hx hb dX5_gathers_20 rfl (lv_at hl 3 rfl) ?_
      refine lv_iadd hx hb dX5_gathers_21 ?_
      obtain ⟨c3, hf⟩ := chk_some hf
      refine g_iald B h 56 (by decide) (n := 90) (fun _ => rfl) (inb_in c3) dX5_gathers_22 ?_
      refine lv_istore (lv' := [(4, .int (σ 56 ((((30 : Int32) * v1) + v3)).toNatClampNeg)), (0, .ref (ad 44)), (1, .int v1), (2, .int v2), (3, .int v3)]) hx hb dX5_gathers_23 hl (by decide) rfl (fun ls hl => ?_)
      refine lv_iconst (v := (0 : Int32)) hx hb dX5_gathers_25 (by decide) ?_
      refine lv_istore (lv' := [(5, .int (0 : Int32)), (4, .int (σ 56 ((((30 : Int32) * v1) + v3)).toNatClampNeg)), (0, .ref (ad 44)), (1, .int v1), (2, .int v2), (3, .int v3)]) hx hb dX5_gathers_26 hl (by decide) rfl (fun ls hl => ?_)
      exact k_X5_gathers_28 B hr ih _ _ _ _ _ _ _ hf _ _ _ h (lv_sub hl [2, 3, 4, 5, 1, 0] rfl)
set_option maxHeartbeats 4000000 in
set_option maxRecDepth 100000 in
theorem k_X5_gathers_0 {p : Program} {l : Launch} {e : Env} {s : State} {m : MethodId} {args : Array Value} {below : List Frame} {meth : Method} {c : Code} {D : va_G} {cy : Nat → ClassId} {ad : Nat → Nat} {X : sX} {r : Unit} {σ' : sM} (B : sB p l s m meth c args cX5_gathers 8 RX5 D cy ad) (hr : meth.sig.returnType = none) (v1 : Int32) (v2 : Int32) (σ : sM) (hf : f_X5_gathers v1 v2 σ = some (r, σ')) : sGo p l e { frames := 2, cells := 0, slots := 0, locals := 45 } s m args below meth c D cy ad X 8 (sQ below args s 0 0 D cy ad (.inr none) X σ') σ 0 [(0, .ref (ad 44)), (1, .int v1), (2, .int v2)] [] := by
  replace hf : (b_X5_gathers_2 FU v1 v2 (0 : Int32) σ) = some (r, σ') := hf
  intro H locs ls h hl
  have hx := B.1
  have hb := B.2.1
  refine lv_iconst (v := (0 : Int32)) hx hb dX5_gathers_0 (by decide) ?_
  refine lv_istore_n (lv' := [(3, .int (0 : Int32)), (0, .ref (ad 44)), (1, .int v1), (2, .int v2)]) hx hb dX5_gathers_1 rfl hl (by decide) rfl (fun ls hl => ?_)
  exact k_X5_gathers_2 B hr  _ _ _ _ _ hf _ _ _ h (lv_sub hl [1, 2, 3, 0] rfl)
set_option maxRecDepth 100000 in
theorem ok_X5_gathers {l : Launch} (hl0 : l.stackTraces = false) {D : va_G} {cy : Nat → ClassId} {ad : Nat → Nat} (hap : sAp ad) (X : sX) (σ : sM) (v1 : Int32) (v2 : Int32) {r : Unit} {σ' : sM} (hf : f_X5_gathers v1 v2 σ = some (r, σ')) : sMet l yX5_gathers (sWs yX5_gathers cX5_gathers 8 none) 2 45 0 0 D cy ad X σ [.ref (ad 44), .int v1, .int v2] (.inr none) X σ' := by
  refine sMet_of (by decide +kernel) (Nat.le_of_ble_eq_true rfl) hap hl0 ?_
  intro p e s m args below meth c ls B hr htab hl h
  exact k_X5_gathers_0 B hr _ _ _  hf _ _ _ h hl
set_option maxHeartbeats 4000000 in
set_option maxRecDepth 100000 in
theorem k_X5_hasKey_5 {p : Program} {l : Launch} {e : Env} {s : State} {m : MethodId} {args : Array Value} {below : List Frame} {meth : Method} {c : Code} {D : va_G} {cy : Nat → ClassId} {ad : Nat → Nat} {X : sX} {r : Int32} (B : sB p l s m meth c args cX5_hasKey 5 RX5 D cy ad) (hr : meth.sig.returnType = (some .boolean)) : ∀ (n : Nat) (v1 : Int32) (v2 : Int32) (v3 : Int32) (v4 : Int32) (σ : sM), b_X5_hasKey_5 n v1 v2 v3 v4 σ = some r → sGo p l e { frames := 0, cells := 0, slots := 0, locals := 0 } s m args below meth c D cy ad X 5 (sQ below args s 0 0 D cy ad (.inr (some (.int r))) X σ) σ 5 [(0, .ref (ad 44)), (1, .int v1), (2, .int v2), (3, .int v3), (4, .int v4)] [] := by
  intro n
  induction n with
  | zero =>
    intro v1 v2 v3 v4 σ hf
    exact nomatch (show none = some r from hf)
  | succ n ih =>
    intro v1 v2 v3 v4 σ hf
    replace hf : (chk (inb v1 3) (if (σ 58 (v1).toNatClampNeg) ≤ v4 then (chk (isb v3) (some v3)) else (if v3 = 0 then (chk (inb (((30 : Int32) * v1) + v4) 90) (if (σ 56 ((((30 : Int32) * v1) + v4)).toNatClampNeg) = v2 then (b_X5_hasKey_5 n v1 v2 (1 : Int32) (v4 + 1) σ) else (b_X5_hasKey_5 n v1 v2 (0 : Int32) (v4 + 1) σ))) else (b_X5_hasKey_5 n v1 v2 (1 : Int32) (v4 + 1) σ)))) = some r := hf
    intro H locs ls h hl
    have hx := B.1
    have hb := B.2.1
    refine lv_iload hx hb dX5_hasKey_5 (lv_at hl 4 rfl) ?_
    refine lv_aload_n hx hb dX5_hasKey_7 rfl (lv_at hl 0 rfl) ?_
    refine g_get B h 44 (by decide) (C := RX5) (T := TX5) (N := 21) (M_row _) rfl hin_X5 13 (by decide) hw842 rfl rfl dX5_hasKey_8 ?_
    refine lv_iload_n hx hb dX5_hasKey_11 rfl (lv_at hl 1 rfl) ?_
    obtain ⟨c1, hf⟩ := chk_some hf
    refine g_iald B h 58 (by decide) (n := 3) (fun _ => rfl) (inb_in c1) dX5_hasKey_12 ?_
    refine lv_icmp_ge (tgt := 48) hx hb dX5_hasKey_13 (by decide) (fun c2 => ?_) (fun c2 => ?_)
    · rw [if_pos c2] at hf
      refine lv_iload_n hx hb dX5_hasKey_48 rfl (lv_at hl 3 rfl) ?_
      obtain ⟨c3, hf⟩ := chk_some hf
      cases hf
      exact sE_z B hr h (isb_n c3) dX5_hasKey_49
    · rw [if_neg c2] at hf
      refine lv_iload_n hx hb dX5_hasKey_16 rfl (lv_at hl 3 rfl) ?_
      refine lv_if_ne (tgt := 36) hx hb dX5_hasKey_17 (by decide) (fun c4 => ?_) (fun c4 => ?_)
      · rw [if_neg c4] at hf
        refine lv_iconst (v := (1 : Int32)) hx hb dX5_hasKey_36 (by decide) ?_
        refine lv_goto (tgt := 41) hx hb dX5_hasKey_37 (by decide) ?_
        refine lv_istore_n (lv' := [(3, .int (1 : Int32)), (0, .ref (ad 44)), (1, .int v1), (2, .int v2), (4, .int v4)]) hx hb dX5_hasKey_41 rfl hl (by decide) rfl (fun ls hl => ?_)
        refine lv_iinc (v := (v4 + 1)) (lv' := [(4, .int (v4 + 1)), (3, .int (1 : Int32)), (0, .ref (ad 44)), (1, .int v1), (2, .int v2)]) hx hb dX5_hasKey_42 hl (k := 4) rfl rfl (by decide) rfl (fun ls hl => ?_)
        refine lv_goto (tgt := 5) hx hb dX5_hasKey_45 (by decide) ?_
        exact ih _ _ _ _ _ hf _ _ _ h (lv_sub hl [2, 3, 4, 1, 0] rfl)
      · rw [if_pos c4] at hf
        refine lv_aload_n hx hb dX5_hasKey_20 rfl (lv_at hl 0 rfl) ?_
        refine g_get B h 44 (by decide) (C := RX5) (T := TX5) (N := 21) (M_row _) rfl hin_X5 11 (by decide) hw840 rfl rfl dX5_hasKey_21 ?_
        refine lv_bipush (v := (30 : Int32)) hx hb dX5_hasKey_24 (by decide) ?_
        refine lv_iload_n hx hb dX5_hasKey_26 rfl (lv_at hl 1 rfl) ?_
        refine lv_imul hx hb dX5_hasKey_27 ?_
        refine lv_iload hx hb dX5_hasKey_28 (lv_at hl 4 rfl) ?_
        refine lv_iadd hx hb dX5_hasKey_30 ?_
        obtain ⟨c5, hf⟩ := chk_some hf
        refine g_iald B h 56 (by decide) (n := 90) (fun _ => rfl) (inb_in c5) dX5_hasKey_31 ?_
        refine lv_iload_n hx hb dX5_hasKey_32 rfl (lv_at hl 2 rfl) ?_
        refine lv_icmp_ne (tgt := 40) hx hb dX5_hasKey_33 (by decide) (fun c6 => ?_) (fun c6 => ?_)
        · rw [if_neg c6] at hf
          refine lv_iconst (v := (0 : Int32)) hx hb dX5_hasKey_40 (by decide) ?_
          refine lv_istore_n (lv' := [(3, .int (0 : Int32)), (0, .ref (ad 44)), (1, .int v1), (2, .int v2), (4, .int v4)]) hx hb dX5_hasKey_41 rfl hl (by decide) rfl (fun ls hl => ?_)
          refine lv_iinc (v := (v4 + 1)) (lv' := [(4, .int (v4 + 1)), (3, .int (0 : Int32)), (0, .ref (ad 44)), (1, .int v1), (2, .int v2)]) hx hb dX5_hasKey_42 hl (k := 4) rfl rfl (by decide) rfl (fun ls hl => ?_)
          refine lv_goto (tgt := 5) hx hb dX5_hasKey_45 (by decide) ?_
          exact ih _ _ _ _ _ hf _ _ _ h (lv_sub hl [2, 3, 4, 1, 0] rfl)
        · rw [if_pos c6] at hf
          refine lv_iconst (v := (1 : Int32)) hx hb dX5_hasKey_36 (by decide) ?_
          refine lv_goto (tgt := 41) hx hb dX5_hasKey_37 (by decide) ?_
          refine lv_istore_n (lv' := [(3, .int (1 : Int32)), (0, .ref (ad 44)), (1, .int v1), (2, .int v2), (4, .int v4)]) hx hb dX5_hasKey_41 rfl hl (by decide) rfl (fun ls hl => ?_)
          refine lv_iinc (v := (v4 + 1)) (lv' := [(4, .int (v4 + 1)), (3, .int (1 : Int32)), (0, .ref (ad 44)), (1, .int v1), (2, .int v2)]) hx hb dX5_hasKey_42 hl (k := 4) rfl rfl (by decide) rfl (fun ls hl => ?_)
          refine lv_goto (tgt := 5) hx hb dX5_hasKey_45 (by decide) ?_
          exact ih _ _ _ _ _ hf _ _ _ h (lv_sub hl [2, 3, 4, 1, 0] rfl)
set_option maxHeartbeats 4000000 in
set_option maxRecDepth 100000 in
theorem k_X5_hasKey_0 {p : Program} {l : Launch} {e : Env} {s : State} {m : MethodId} {args : Array Value} {below : List Frame} {meth : Method} {c : Code} {D : va_G} {cy : Nat → ClassId} {ad : Nat → Nat} {X : sX} {r : Int32} (B : sB p l s m meth c args cX5_hasKey 5 RX5 D cy ad) (hr : meth.sig.returnType = (some .boolean)) (v1 : Int32) (v2 : Int32) (σ : sM) (hf : f_X5_hasKey v1 v2 σ = some r) : sGo p l e { frames := 0, cells := 0, slots := 0, locals := 0 } s m args below meth c D cy ad X 5 (sQ below args s 0 0 D cy ad (.inr (some (.int r))) X σ) σ 0 [(0, .ref (ad 44)), (1, .int v1), (2, .int v2)] [] := by
  replace hf : (b_X5_hasKey_5 FU v1 v2 (0 : Int32) (0 : Int32) σ) = some r := hf
  intro H locs ls h hl
  have hx := B.1
  have hb := B.2.1
  refine lv_iconst (v := (0 : Int32)) hx hb dX5_hasKey_0 (by decide) ?_
  refine lv_istore_n (lv' := [(3, .int (0 : Int32)), (0, .ref (ad 44)), (1, .int v1), (2, .int v2)]) hx hb dX5_hasKey_1 rfl hl (by decide) rfl (fun ls hl => ?_)
  refine lv_iconst (v := (0 : Int32)) hx hb dX5_hasKey_2 (by decide) ?_
  refine lv_istore (lv' := [(4, .int (0 : Int32)), (3, .int (0 : Int32)), (0, .ref (ad 44)), (1, .int v1), (2, .int v2)]) hx hb dX5_hasKey_3 hl (by decide) rfl (fun ls hl => ?_)
  exact k_X5_hasKey_5 B hr  _ _ _ _ _ _ hf _ _ _ h (lv_sub hl [2, 3, 4, 1, 0] rfl)
set_option maxRecDepth 100000 in
theorem ok_X5_hasKey {l : Launch} (hl0 : l.stackTraces = false) {D : va_G} {cy : Nat → ClassId} {ad : Nat → Nat} (hap : sAp ad) (X : sX) (σ : sM) (v1 : Int32) (v2 : Int32) {r : Int32} (hf : f_X5_hasKey v1 v2 σ = some r) : sMet l yX5_hasKey (sWs yX5_hasKey cX5_hasKey 5 (some .boolean)) 0 0 0 0 D cy ad X σ [.ref (ad 44), .int v1, .int v2] (.inr (some (.int r))) X σ := by
  refine sMet_of (by decide +kernel) (Nat.le_of_ble_eq_true rfl) hap hl0 ?_
  intro p e s m args below meth c ls B hr htab hl h
  exact k_X5_hasKey_0 B hr _ _ _  hf _ _ _ h hl
set_option maxHeartbeats 4000000 in
set_option maxRecDepth 100000 in
theorem k_X5_isLike_52 {p : Program} {l : Launch} {e : Env} {s : State} {m : MethodId} {args : Array Value} {below : List Frame} {meth : Method} {c : Code} {D : va_G} {cy : Nat → ClassId} {ad : Nat → Nat} {X : sX} {r : Int32} {σ' : sM} (B : sB p l s m meth c args cX5_isLike 5 RX5 D cy ad) (hr : meth.sig.returnType = (some .boolean)) : ∀ (n : Nat) (v1 : Int32) (v2 : Int32) (v3 : Int32) (v4 : Int32) (σ : sM), b_X5_isLike_52 n v1 v2 v3 v4 σ = some (r, σ') → sGo p l e { frames := 2, cells := 0, slots := 0, locals := 42 } s m args below meth c D cy ad X 5 (sQ below args s 0 0 D cy ad (.inr (some (.int r))) X σ') σ 52 [(0, .ref (ad 44)), (1, .int v1), (2, .int v2), (3, .int v3), (4, .int v4)] [] := by
  intro n
  induction n with
  | zero =>
    intro v1 v2 v3 v4 σ hf
    exact nomatch (show none = some (r, σ') from hf)
  | succ n ih =>
    intro v1 v2 v3 v4 σ hf
    replace hf : (chk (inb v1 3) (if (σ 47 (v1).toNatClampNeg) ≤ v4 then (chk (isb v3) (some (v3, σ))) else (if v3 = 0 then (chk (isb v3) (some (v3, σ))) else (chk (inb (((60 : Int32) * v1) + v4) 180) (chk (inb (((60 : Int32) * v2) + v4) 180) (if (σ 45 ((((60 : Int32) * v1) + v4)).toNatClampNeg) = (σ 45 ((((60 : Int32) * v2) + v4)).toNatClampNeg) then (chk (inb (((60 : Int32) * v1) + v4) 180) (chk (inb (((60 : Int32) * v2) + v4) 180) (if (σ 46 ((((60 : Int32) * v1) + v4)).toNatClampNeg) = (σ 46 ((((60 : Int32) * v2) + v4)).toNatClampNeg) then (b_X5_isLike_52 n v1 v2 (1 : Int32) (v4 + 1) σ) else (b_X5_isLike_52 n v1 v2 (0 : Int32) (v4 + 1) σ)))) else (b_X5_isLike_52 n v1 v2 (0 : Int32) (v4 + 1) σ))))))) = some (r, σ') := hf
    intro H locs ls h hl
    have hx := B.1
    have hb := B.2.1
    refine lv_iload hx hb dX5_isLike_52 (lv_at hl 4 rfl) ?_
    refine lv_aload_n hx hb dX5_isLike_54 rfl (lv_at hl 0 rfl) ?_
    refine g_get B h 44 (by decide) (C := RX5) (T := TX5) (N := 21) (M_row _) rfl hin_X5 2 (by decide) hw831 rfl rfl dX5_isLike_55 ?_
    refine lv_iload_n hx hb dX5_isLike_58 rfl (lv_at hl 1 rfl) ?_
    obtain ⟨c10, hf⟩ := chk_some hf
    refine g_iald B h 47 (by decide) (n := 3) (fun _ => rfl) (inb_in c10) dX5_isLike_59 ?_
    refine lv_icmp_ge (tgt := 133) hx hb dX5_isLike_60 (by decide) (fun c11 => ?_) (fun c11 => ?_)
    · rw [if_pos c11] at hf
      refine lv_iload_n hx hb dX5_isLike_133 rfl (lv_at hl 3 rfl) ?_
      obtain ⟨c12, hf⟩ := chk_some hf
      cases hf
      exact sE_z B hr h (isb_n c12) dX5_isLike_134
    · rw [if_neg c11] at hf
      refine lv_iload_n hx hb dX5_isLike_63 rfl (lv_at hl 3 rfl) ?_
      refine lv_if_eq (tgt := 133) hx hb dX5_isLike_64 (by decide) (fun c13 => ?_) (fun c13 => ?_)
      · rw [if_pos c13] at hf
        refine lv_iload_n hx hb dX5_isLike_133 rfl (lv_at hl 3 rfl) ?_
        obtain ⟨c14, hf⟩ := chk_some hf
        cases hf
        exact sE_z B hr h (isb_n c14) dX5_isLike_134
      · rw [if_neg c13] at hf
        refine lv_aload_n hx hb dX5_isLike_67 rfl (lv_at hl 0 rfl) ?_
        refine g_get B h 44 (by decide) (C := RX5) (T := TX5) (N := 21) (M_row _) rfl hin_X5 0 (by decide) hw829 rfl rfl dX5_isLike_68 ?_
        refine lv_bipush (v := (60 : Int32)) hx hb dX5_isLike_71 (by decide) ?_
        refine lv_iload_n hx hb dX5_isLike_73 rfl (lv_at hl 1 rfl) ?_
        refine lv_imul hx hb dX5_isLike_74 ?_
        refine lv_iload hx hb dX5_isLike_75 (lv_at hl 4 rfl) ?_
        refine lv_iadd hx hb dX5_isLike_77 ?_
        obtain ⟨c15, hf⟩ := chk_some hf
        refine g_iald B h 45 (by decide) (n := 180) (fun _ => rfl) (inb_in c15) dX5_isLike_78 ?_
        refine lv_aload_n hx hb dX5_isLike_79 rfl (lv_at hl 0 rfl) ?_
        refine g_get B h 44 (by decide) (C := RX5) (T := TX5) (N := 21) (M_row _) rfl hin_X5 0 (by decide) hw829 rfl rfl dX5_isLike_80 ?_
        refine lv_bipush (v := (60 : Int32)) hx hb dX5_isLike_83 (by decide) ?_
        refine lv_iload_n hx hb dX5_isLike_85 rfl (lv_at hl 2 rfl) ?_
        refine lv_imul hx hb dX5_isLike_86 ?_
        refine lv_iload hx hb dX5_isLike_87 (lv_at hl 4 rfl) ?_
        refine lv_iadd hx hb dX5_isLike_89 ?_
        obtain ⟨c16, hf⟩ := chk_some hf
        refine g_iald B h 45 (by decide) (n := 180) (fun _ => rfl) (inb_in c16) dX5_isLike_90 ?_
        refine lv_icmp_ne (tgt := 125) hx hb dX5_isLike_91 (by decide) (fun c17 => ?_) (fun c17 => ?_)
        · rw [if_neg c17] at hf
          refine lv_iconst (v := (0 : Int32)) hx hb dX5_isLike_125 (by decide) ?_
          refine lv_istore_n (lv' := [(3, .int (0 : Int32)), (0, .ref (ad 44)), (1, .int v1), (2, .int v2), (4, .int v4)]) hx hb dX5_isLike_126 rfl hl (by decide) rfl (fun ls hl => ?_)
          refine lv_iinc (v := (v4 + 1)) (lv' := [(4, .int (v4 + 1)), (3, .int (0 : Int32)), (0, .ref (ad 44)), (1, .int v1), (2, .int v2)]) hx hb dX5_isLike_127 hl (k := 4) rfl rfl (by decide) rfl (fun ls hl => ?_)
          refine lv_goto (tgt := 52) hx hb dX5_isLike_130 (by decide) ?_
          exact ih _ _ _ _ _ hf _ _ _ h (lv_sub hl [2, 3, 4, 1, 0] rfl)
        · rw [if_pos c17] at hf
          refine lv_aload_n hx hb dX5_isLike_94 rfl (lv_at hl 0 rfl) ?_
          refine g_get B h 44 (by decide) (C := RX5) (T := TX5) (N := 21) (M_row _) rfl hin_X5 1 (by decide) hw830 rfl rfl dX5_isLike_95 ?_
          refine lv_bipush (v := (60 : Int32)) hx hb dX5_isLike_98 (by decide) ?_
          refine lv_iload_n hx hb dX5_isLike_100 rfl (lv_at hl 1 rfl) ?_
          refine lv_imul hx hb dX5_isLike_101 ?_
          refine lv_iload hx hb dX5_isLike_102 (lv_at hl 4 rfl) ?_
          refine lv_iadd hx hb dX5_isLike_104 ?_
          obtain ⟨c18, hf⟩ := chk_some hf
          refine g_iald B h 46 (by decide) (n := 180) (fun _ => rfl) (inb_in c18) dX5_isLike_105 ?_
          refine lv_aload_n hx hb dX5_isLike_106 rfl (lv_at hl 0 rfl) ?_
          refine g_get B h 44 (by decide) (C := RX5) (T := TX5) (N := 21) (M_row _) rfl hin_X5 1 (by decide) hw830 rfl rfl dX5_isLike_107 ?_
          refine lv_bipush (v := (60 : Int32)) hx hb dX5_isLike_110 (by decide) ?_
          refine lv_iload_n hx hb dX5_isLike_112 rfl (lv_at hl 2 rfl) ?_
          refine lv_imul hx hb dX5_isLike_113 ?_
          refine lv_iload hx hb dX5_isLike_114 (lv_at hl 4 rfl) ?_
          refine lv_iadd hx hb dX5_isLike_116 ?_
          obtain ⟨c19, hf⟩ := chk_some hf
          refine g_iald B h 46 (by decide) (n := 180) (fun _ => rfl) (inb_in c19) dX5_isLike_117 ?_
          refine lv_icmp_ne (tgt := 125) hx hb dX5_isLike_118 (by decide) (fun c20 => ?_) (fun c20 => ?_)
          · rw [if_neg c20] at hf
            refine lv_iconst (v := (0 : Int32)) hx hb dX5_isLike_125 (by decide) ?_
            refine lv_istore_n (lv' := [(3, .int (0 : Int32)), (0, .ref (ad 44)), (1, .int v1), (2, .int v2), (4, .int v4)]) hx hb dX5_isLike_126 rfl hl (by decide) rfl (fun ls hl => ?_)
            refine lv_iinc (v := (v4 + 1)) (lv' := [(4, .int (v4 + 1)), (3, .int (0 : Int32)), (0, .ref (ad 44)), (1, .int v1), (2, .int v2)]) hx hb dX5_isLike_127 hl (k := 4) rfl rfl (by decide) rfl (fun ls hl => ?_)
            refine lv_goto (tgt := 52) hx hb dX5_isLike_130 (by decide) ?_
            exact ih _ _ _ _ _ hf _ _ _ h (lv_sub hl [2, 3, 4, 1, 0] rfl)
          · rw [if_pos c20] at hf
            refine lv_iconst (v := (1 : Int32)) hx hb dX5_isLike_121 (by decide) ?_
            refine lv_goto (tgt := 126) hx hb dX5_isLike_122 (by decide) ?_
            refine lv_istore_n (lv' := [(3, .int (1 : Int32)), (0, .ref (ad 44)), (1, .int v1), (2, .int v2), (4, .int v4)]) hx hb dX5_isLike_126 rfl hl (by decide) rfl (fun ls hl => ?_)
            refine lv_iinc (v := (v4 + 1)) (lv' := [(4, .int (v4 + 1)), (3, .int (1 : Int32)), (0, .ref (ad 44)), (1, .int v1), (2, .int v2)]) hx hb dX5_isLike_127 hl (k := 4) rfl rfl (by decide) rfl (fun ls hl => ?_)
            refine lv_goto (tgt := 52) hx hb dX5_isLike_130 (by decide) ?_
            exact ih _ _ _ _ _ hf _ _ _ h (lv_sub hl [2, 3, 4, 1, 0] rfl)
set_option maxHeartbeats 4000000 in
set_option maxRecDepth 100000 in
theorem k_X5_isLike_20 {p : Program} {l : Launch} {e : Env} {s : State} {m : MethodId} {args : Array Value} {below : List Frame} {meth : Method} {c : Code} {D : va_G} {cy : Nat → ClassId} {ad : Nat → Nat} {X : sX} {r : Int32} {σ' : sM} (B : sB p l s m meth c args cX5_isLike 5 RX5 D cy ad) (hr : meth.sig.returnType = (some .boolean)) (v1 : Int32) (v2 : Int32) (vs1 : Int32) (σ : sM) (hf : b_X5_isLike_20 v1 v2 vs1 σ = some (r, σ')) : sGo p l e { frames := 2, cells := 0, slots := 0, locals := 42 } s m args below meth c D cy ad X 5 (sQ below args s 0 0 D cy ad (.inr (some (.int r))) X σ') σ 20 [(0, .ref (ad 44)), (1, .int v1), (2, .int v2)] [.int vs1, .ref (ad 44)] := by
  replace hf : (wthn (f_X5_refused vs1 σ) (fun vr5 σ5 => if vr5 = 0 then (chk (inb v1 3) (chk (inb v2 3) (if (σ5 47 (v1).toNatClampNeg) = (σ5 47 (v2).toNatClampNeg) then (b_X5_isLike_52 FU v1 v2 (1 : Int32) (0 : Int32) σ5) else (b_X5_isLike_52 FU v1 v2 (0 : Int32) (0 : Int32) σ5)))) else (some ((0 : Int32), σ5)))) = some (r, σ') := hf
  intro H locs ls h hl
  have hx := B.1
  have hb := B.2.1
  obtain ⟨vr5, σ5, hq5, hf⟩ := wthn_some hf
  refine sRetC1 (g_runV (k := 44) (T := TX5) (N := 21) B h (ok_X5_refused B.2.2.2.2.2.2.2.2 B.2.2.2.2.2.2.1 _ _ vs1 hq5) cw_X5_95 ⟨Nat.le_of_ble_eq_true rfl, Nat.le_of_ble_eq_true rfl⟩ (by decide) (M_row _) rfl rfl hl.1.symm rfl (Nat.le_of_ble_eq_true rfl) dX5_isLike_20 ⟨Nat.zero_le _, Nat.zero_le _⟩) h (fun H locs h => ?_)
  refine lv_if_eq (tgt := 28) hx hb dX5_isLike_23 (by decide) (fun c6 => ?_) (fun c6 => ?_)
  · rw [if_pos c6] at hf
    refine lv_aload_n hx hb dX5_isLike_28 rfl (lv_at hl 0 rfl) ?_
    refine g_get B h 44 (by decide) (C := RX5) (T := TX5) (N := 21) (M_row _) rfl hin_X5 2 (by decide) hw831 rfl rfl dX5_isLike_29 ?_
    refine lv_iload_n hx hb dX5_isLike_32 rfl (lv_at hl 1 rfl) ?_
    obtain ⟨c7, hf⟩ := chk_some hf
    refine g_iald B h 47 (by decide) (n := 3) (fun _ => rfl) (inb_in c7) dX5_isLike_33 ?_
    refine lv_aload_n hx hb dX5_isLike_34 rfl (lv_at hl 0 rfl) ?_
    refine g_get B h 44 (by decide) (C := RX5) (T := TX5) (N := 21) (M_row _) rfl hin_X5 2 (by decide) hw831 rfl rfl dX5_isLike_35 ?_
    refine lv_iload_n hx hb dX5_isLike_38 rfl (lv_at hl 2 rfl) ?_
    obtain ⟨c8, hf⟩ := chk_some hf
    refine g_iald B h 47 (by decide) (n := 3) (fun _ => rfl) (inb_in c8) dX5_isLike_39 ?_
    refine lv_icmp_ne (tgt := 47) hx hb dX5_isLike_40 (by decide) (fun c9 => ?_) (fun c9 => ?_)
    · rw [if_neg c9] at hf
      refine lv_iconst (v := (0 : Int32)) hx hb dX5_isLike_47 (by decide) ?_
      refine lv_istore_n (lv' := [(3, .int (0 : Int32)), (0, .ref (ad 44)), (1, .int v1), (2, .int v2)]) hx hb dX5_isLike_48 rfl hl (by decide) rfl (fun ls hl => ?_)
      refine lv_iconst (v := (0 : Int32)) hx hb dX5_isLike_49 (by decide) ?_
      refine lv_istore (lv' := [(4, .int (0 : Int32)), (3, .int (0 : Int32)), (0, .ref (ad 44)), (1, .int v1), (2, .int v2)]) hx hb dX5_isLike_50 hl (by decide) rfl (fun ls hl => ?_)
      exact k_X5_isLike_52 B hr  _ _ _ _ _ _ hf _ _ _ h (lv_sub hl [2, 3, 4, 1, 0] rfl)
    · rw [if_pos c9] at hf
      refine lv_iconst (v := (1 : Int32)) hx hb dX5_isLike_43 (by decide) ?_
      refine lv_goto (tgt := 48) hx hb dX5_isLike_44 (by decide) ?_
      refine lv_istore_n (lv' := [(3, .int (1 : Int32)), (0, .ref (ad 44)), (1, .int v1), (2, .int v2)]) hx hb dX5_isLike_48 rfl hl (by decide) rfl (fun ls hl => ?_)
      refine lv_iconst (v := (0 : Int32)) hx hb dX5_isLike_49 (by decide) ?_
      refine lv_istore (lv' := [(4, .int (0 : Int32)), (3, .int (1 : Int32)), (0, .ref (ad 44)), (1, .int v1), (2, .int v2)]) hx hb dX5_isLike_50 hl (by decide) rfl (fun ls hl => ?_)
      exact k_X5_isLike_52 B hr  _ _ _ _ _ _ hf _ _ _ h (lv_sub hl [2, 3, 4, 1, 0] rfl)
  · rw [if_neg c6] at hf
    refine lv_iconst (v := (0 : Int32)) hx hb dX5_isLike_26 (by decide) ?_
    cases hf
    exact sE_z B hr h rfl dX5_isLike_27
set_option maxHeartbeats 4000000 in
set_option maxRecDepth 100000 in
theorem k_X5_isLike_0 {p : Program} {l : Launch} {e : Env} {s : State} {m : MethodId} {args : Array Value} {below : List Frame} {meth : Method} {c : Code} {D : va_G} {cy : Nat → ClassId} {ad : Nat → Nat} {X : sX} {r : Int32} {σ' : sM} (B : sB p l s m meth c args cX5_isLike 5 RX5 D cy ad) (hr : meth.sig.returnType = (some .boolean)) (v1 : Int32) (v2 : Int32) (σ : sM) (hf : f_X5_isLike v1 v2 σ = some (r, σ')) : sGo p l e { frames := 2, cells := 0, slots := 0, locals := 42 } s m args below meth c D cy ad X 5 (sQ below args s 0 0 D cy ad (.inr (some (.int r))) X σ') σ 0 [(0, .ref (ad 44)), (1, .int v1), (2, .int v2)] [] := by
  replace hf : (rthn (f_X5_isMap v1 σ) (fun vr1 => if vr1 = 0 then (b_X5_isLike_20 v1 v2 (1 : Int32) σ) else (rthn (f_X5_isMap v2 σ) (fun vr3 => if vr3 = 0 then (b_X5_isLike_20 v1 v2 (1 : Int32) σ) else (b_X5_isLike_20 v1 v2 (0 : Int32) σ))))) = some (r, σ') := hf
  intro H locs ls h hl
  have hx := B.1
  have hb := B.2.1
  refine lv_aload_n hx hb dX5_isLike_0 rfl (lv_at hl 0 rfl) ?_
  refine lv_iload_n hx hb dX5_isLike_1 rfl (lv_at hl 1 rfl) ?_
  obtain ⟨vr1, hq1, hf⟩ := rthn_some hf
  refine sRetC1 (g_runS B h (ok_X5_isMap B.2.2.2.2.2.2.2.2 B.2.2.2.2.2.2.1 _ _ v1 hq1) cw_X5_87 ⟨Nat.le_of_ble_eq_true rfl, Nat.le_of_ble_eq_true rfl⟩ rfl hl.1.symm rfl (Nat.le_of_ble_eq_true rfl) dX5_isLike_2 ⟨Nat.zero_le _, Nat.zero_le _⟩) h (fun H locs h => ?_)
  refine lv_if_eq (tgt := 15) hx hb dX5_isLike_5 (by decide) (fun c2 => ?_) (fun c2 => ?_)
  · rw [if_pos c2] at hf
    refine lv_iconst (v := (1 : Int32)) hx hb dX5_isLike_15 (by decide) ?_
    refine lv_goto (tgt := 20) hx hb dX5_isLike_16 (by decide) ?_
    exact k_X5_isLike_20 B hr  _ _ _ _ hf _ _ _ h (lv_sub hl [0, 1, 2] rfl)
  · rw [if_neg c2] at hf
    refine lv_iload_n hx hb dX5_isLike_8 rfl (lv_at hl 2 rfl) ?_
    obtain ⟨vr3, hq3, hf⟩ := rthn_some hf
    refine sRetC1 (g_runS B h (ok_X5_isMap B.2.2.2.2.2.2.2.2 B.2.2.2.2.2.2.1 _ _ v2 hq3) cw_X5_87 ⟨Nat.le_of_ble_eq_true rfl, Nat.le_of_ble_eq_true rfl⟩ rfl hl.1.symm rfl (Nat.le_of_ble_eq_true rfl) dX5_isLike_9 ⟨Nat.zero_le _, Nat.zero_le _⟩) h (fun H locs h => ?_)
    refine lv_if_ne (tgt := 19) hx hb dX5_isLike_12 (by decide) (fun c4 => ?_) (fun c4 => ?_)
    · rw [if_neg c4] at hf
      refine lv_iconst (v := (0 : Int32)) hx hb dX5_isLike_19 (by decide) ?_
      exact k_X5_isLike_20 B hr  _ _ _ _ hf _ _ _ h (lv_sub hl [0, 1, 2] rfl)
    · rw [if_pos c4] at hf
      refine lv_iconst (v := (1 : Int32)) hx hb dX5_isLike_15 (by decide) ?_
      refine lv_goto (tgt := 20) hx hb dX5_isLike_16 (by decide) ?_
      exact k_X5_isLike_20 B hr  _ _ _ _ hf _ _ _ h (lv_sub hl [0, 1, 2] rfl)
set_option maxRecDepth 100000 in
theorem ok_X5_isLike {l : Launch} (hl0 : l.stackTraces = false) {D : va_G} {cy : Nat → ClassId} {ad : Nat → Nat} (hap : sAp ad) (X : sX) (σ : sM) (v1 : Int32) (v2 : Int32) {r : Int32} {σ' : sM} (hf : f_X5_isLike v1 v2 σ = some (r, σ')) : sMet l yX5_isLike (sWs yX5_isLike cX5_isLike 5 (some .boolean)) 2 42 0 0 D cy ad X σ [.ref (ad 44), .int v1, .int v2] (.inr (some (.int r))) X σ' := by
  refine sMet_of (by decide +kernel) (Nat.le_of_ble_eq_true rfl) hap hl0 ?_
  intro p e s m args below meth c ls B hr htab hl h
  exact k_X5_isLike_0 B hr _ _ _  hf _ _ _ h hl
set_option maxHeartbeats 4000000 in
set_option maxRecDepth 100000 in
theorem k_X5_isOnSide_0 {p : Program} {l : Launch} {e : Env} {s : State} {m : MethodId} {args : Array Value} {below : List Frame} {meth : Method} {c : Code} {D : va_G} {cy : Nat → ClassId} {ad : Nat → Nat} {X : sX} {r : Int32} (B : sB p l s m meth c args cX5_isOnSide 3 RX5 D cy ad) (hr : meth.sig.returnType = (some .boolean)) (v0 : Int32) (v1 : Int32) (v2 : Int32) (σ : sM) (hf : f_X5_isOnSide v0 v1 v2 σ = some r) : sGo p l e { frames := 0, cells := 0, slots := 0, locals := 0 } s m args below meth c D cy ad X 3 (sQ below args s 0 0 D cy ad (.inr (some (.int r))) X σ) σ 0 [(0, .int v0), (1, .int v1), (2, .int v2)] [] := by
  replace hf : (if v2 = (102 : Int32) then (if v1 < v0 then (some (0 : Int32)) else (some (1 : Int32))) else (if v2 = (99 : Int32) then (if v0 < v1 then (some (0 : Int32)) else (some (1 : Int32))) else (if v2 = (104 : Int32) then (if v0 ≤ v1 then (some (0 : Int32)) else (some (1 : Int32))) else (if v1 ≤ v0 then (some (0 : Int32)) else (some (1 : Int32)))))) = some r := hf
  intro H locs ls h hl
  have hx := B.1
  have hb := B.2.1
  refine lv_iload_n hx hb dX5_isOnSide_0 rfl (lv_at hl 2 rfl) ?_
  refine lv_bipush (v := (102 : Int32)) hx hb dX5_isOnSide_1 (by decide) ?_
  refine lv_icmp_ne (tgt := 19) hx hb dX5_isOnSide_3 (by decide) (fun c1 => ?_) (fun c1 => ?_)
  · rw [if_neg c1] at hf
    refine lv_iload_n hx hb dX5_isOnSide_19 rfl (lv_at hl 2 rfl) ?_
    refine lv_bipush (v := (99 : Int32)) hx hb dX5_isOnSide_20 (by decide) ?_
    refine lv_icmp_ne (tgt := 38) hx hb dX5_isOnSide_22 (by decide) (fun c2 => ?_) (fun c2 => ?_)
    · rw [if_neg c2] at hf
      refine lv_iload_n hx hb dX5_isOnSide_38 rfl (lv_at hl 2 rfl) ?_
      refine lv_bipush (v := (104 : Int32)) hx hb dX5_isOnSide_39 (by decide) ?_
      refine lv_icmp_ne (tgt := 57) hx hb dX5_isOnSide_41 (by decide) (fun c3 => ?_) (fun c3 => ?_)
      · rw [if_neg c3] at hf
        refine lv_iload_n hx hb dX5_isOnSide_57 rfl (lv_at hl 0 rfl) ?_
        refine lv_iload_n hx hb dX5_isOnSide_58 rfl (lv_at hl 1 rfl) ?_
        refine lv_icmp_ge (tgt := 66) hx hb dX5_isOnSide_59 (by decide) (fun c4 => ?_) (fun c4 => ?_)
        · rw [if_pos c4] at hf
          refine lv_iconst (v := (0 : Int32)) hx hb dX5_isOnSide_66 (by decide) ?_
          cases hf
          exact sE_z B hr h rfl dX5_isOnSide_67
        · rw [if_neg c4] at hf
          refine lv_iconst (v := (1 : Int32)) hx hb dX5_isOnSide_62 (by decide) ?_
          refine lv_goto (tgt := 67) hx hb dX5_isOnSide_63 (by decide) ?_
          cases hf
          exact sE_z B hr h rfl dX5_isOnSide_67
      · rw [if_pos c3] at hf
        refine lv_iload_n hx hb dX5_isOnSide_44 rfl (lv_at hl 0 rfl) ?_
        refine lv_iload_n hx hb dX5_isOnSide_45 rfl (lv_at hl 1 rfl) ?_
        refine lv_icmp_le (tgt := 53) hx hb dX5_isOnSide_46 (by decide) (fun c5 => ?_) (fun c5 => ?_)
        · rw [if_pos c5] at hf
          refine lv_iconst (v := (0 : Int32)) hx hb dX5_isOnSide_53 (by decide) ?_
          refine lv_goto (tgt := 67) hx hb dX5_isOnSide_54 (by decide) ?_
          cases hf
          exact sE_z B hr h rfl dX5_isOnSide_67
        · rw [if_neg c5] at hf
          refine lv_iconst (v := (1 : Int32)) hx hb dX5_isOnSide_49 (by decide) ?_
          refine lv_goto (tgt := 67) hx hb dX5_isOnSide_50 (by decide) ?_
          cases hf
          exact sE_z B hr h rfl dX5_isOnSide_67
    · rw [if_pos c2] at hf
      refine lv_iload_n hx hb dX5_isOnSide_25 rfl (lv_at hl 0 rfl) ?_
      refine lv_iload_n hx hb dX5_isOnSide_26 rfl (lv_at hl 1 rfl) ?_
      refine lv_icmp_lt (tgt := 34) hx hb dX5_isOnSide_27 (by decide) (fun c6 => ?_) (fun c6 => ?_)
      · rw [if_pos c6] at hf
        refine lv_iconst (v := (0 : Int32)) hx hb dX5_isOnSide_34 (by decide) ?_
        refine lv_goto (tgt := 67) hx hb dX5_isOnSide_35 (by decide) ?_
        cases hf
        exact sE_z B hr h rfl dX5_isOnSide_67
      · rw [if_neg c6] at hf
        refine lv_iconst (v := (1 : Int32)) hx hb dX5_isOnSide_30 (by decide) ?_
        refine lv_goto (tgt := 67) hx hb dX5_isOnSide_31 (by decide) ?_
        cases hf
        exact sE_z B hr h rfl dX5_isOnSide_67
  · rw [if_pos c1] at hf
    refine lv_iload_n hx hb dX5_isOnSide_6 rfl (lv_at hl 0 rfl) ?_
    refine lv_iload_n hx hb dX5_isOnSide_7 rfl (lv_at hl 1 rfl) ?_
    refine lv_icmp_gt (tgt := 15) hx hb dX5_isOnSide_8 (by decide) (fun c7 => ?_) (fun c7 => ?_)
    · rw [if_pos c7] at hf
      refine lv_iconst (v := (0 : Int32)) hx hb dX5_isOnSide_15 (by decide) ?_
      refine lv_goto (tgt := 67) hx hb dX5_isOnSide_16 (by decide) ?_
      cases hf
      exact sE_z B hr h rfl dX5_isOnSide_67
    · rw [if_neg c7] at hf
      refine lv_iconst (v := (1 : Int32)) hx hb dX5_isOnSide_11 (by decide) ?_
      refine lv_goto (tgt := 67) hx hb dX5_isOnSide_12 (by decide) ?_
      cases hf
      exact sE_z B hr h rfl dX5_isOnSide_67
set_option maxRecDepth 100000 in
theorem ok_X5_isOnSide {l : Launch} (hl0 : l.stackTraces = false) {D : va_G} {cy : Nat → ClassId} {ad : Nat → Nat} (hap : sAp ad) (X : sX) (σ : sM) (v0 : Int32) (v1 : Int32) (v2 : Int32) {r : Int32} (hf : f_X5_isOnSide v0 v1 v2 σ = some r) : sMet l yX5_isOnSide (sWs yX5_isOnSide cX5_isOnSide 3 (some .boolean)) 0 0 0 0 D cy ad X σ [.int v0, .int v1, .int v2] (.inr (some (.int r))) X σ := by
  refine sMet_of (by decide +kernel) (Nat.le_of_ble_eq_true rfl) hap hl0 ?_
  intro p e s m args below meth c ls B hr htab hl h
  exact k_X5_isOnSide_0 B hr _ _ _ _  hf _ _ _ h hl
set_option maxHeartbeats 4000000 in
set_option maxRecDepth 100000 in
theorem k_X5_isSound_0 {p : Program} {l : Launch} {e : Env} {s : State} {m : MethodId} {args : Array Value} {below : List Frame} {meth : Method} {c : Code} {D : va_G} {cy : Nat → ClassId} {ad : Nat → Nat} {X : sX} {r : Int32} {σ' : sM} (B : sB p l s m meth c args cX5_isSound 1 RX5 D cy ad) (hr : meth.sig.returnType = (some .boolean)) (σ : sM) (hf : f_X5_isSound σ = some (r, σ')) : sGo p l e { frames := 0, cells := 0, slots := 0, locals := 0 } s m args below meth c D cy ad X 1 (sQ below args s 0 0 D cy ad (.inr (some (.int r))) X σ') σ 0 [(0, .ref (ad 44))] [] := by
  replace hf : (stl (va_up σ 44 (upd (σ 44) 20 (0 : Int32))) (fun σ1 => some ((1 : Int32), σ1))) = some (r, σ') := hf
  intro H locs ls h hl
  have hx := B.1
  have hb := B.2.1
  refine lv_aload_n hx hb dX5_isSound_0 rfl (lv_at hl 0 rfl) ?_
  refine lv_iconst (v := (0 : Int32)) hx hb dX5_isSound_1 (by decide) ?_
  refine g_put B h 44 (by decide) (C := RX5) (T := TX5) (N := 21) (M_row _) rfl hin_X5 tyX5 tyX5_ok nmX5 20 (by decide) hw849 rfl rfl rfl rfl (upd (σ 44) 20 (0 : Int32)) (M_put20 _ _) (Nat.le_of_ble_eq_true rfl) dX5_isSound_2 (fun H locs h => ?_)
  obtain ⟨σ1, e1, hf⟩ := stl_some hf
  rw [← e1] at h
  refine lv_iconst (v := (1 : Int32)) hx hb dX5_isSound_5 (by decide) ?_
  cases hf
  exact sE_z B hr h rfl dX5_isSound_6
set_option maxRecDepth 100000 in
theorem ok_X5_isSound {l : Launch} (hl0 : l.stackTraces = false) {D : va_G} {cy : Nat → ClassId} {ad : Nat → Nat} (hap : sAp ad) (X : sX) (σ : sM) {r : Int32} {σ' : sM} (hf : f_X5_isSound σ = some (r, σ')) : sMet l yX5_isSound (sWs yX5_isSound cX5_isSound 1 (some .boolean)) 0 0 0 0 D cy ad X σ [.ref (ad 44)] (.inr (some (.int r))) X σ' := by
  refine sMet_of (by decide +kernel) (Nat.le_of_ble_eq_true rfl) hap hl0 ?_
  intro p e s m args below meth c ls B hr htab hl h
  exact k_X5_isSound_0 B hr  _  hf _ _ _ h hl
set_option maxHeartbeats 4000000 in
set_option maxRecDepth 100000 in
theorem k_X5_isTooMuch_0 {p : Program} {l : Launch} {e : Env} {s : State} {m : MethodId} {args : Array Value} {below : List Frame} {meth : Method} {c : Code} {D : va_G} {cy : Nat → ClassId} {ad : Nat → Nat} {X : sX} {r : Int32} {σ' : sM} (B : sB p l s m meth c args cX5_isTooMuch 4 RX5 D cy ad) (hr : meth.sig.returnType = (some .boolean)) (v1 : Int32) (v2 : Int32) (v3 : Int32) (σ : sM) (hf : f_X5_isTooMuch v1 v2 v3 σ = some (r, σ')) : sGo p l e { frames := 3, cells := 0, slots := 0, locals := 72 } s m args below meth c D cy ad X 4 (sQ below args s 0 0 D cy ad (.inr (some (.int r))) X σ') σ 0 [(0, .ref (ad 44)), (1, .int v1), (2, .int v2), (3, .int v3)] [] := by
  replace hf : (stl (va_up σ 44 (upd (σ 44) 15 (0 : Int32))) (fun σ1 => wthn (f_X5_gathers v1 v3 σ1) (fun _ σ2 => wthn (f_X5_gathers v2 v3 σ2) (fun _ σ3 => chk (inb v3 3) (if ((σ3 47 (v3).toNatClampNeg) + (σ3 44 15)) ≤ (60 : Int32) then (some ((0 : Int32), σ3)) else (some ((1 : Int32), σ3))))))) = some (r, σ') := hf
  intro H locs ls h hl
  have hx := B.1
  have hb := B.2.1
  refine lv_aload_n hx hb dX5_isTooMuch_0 rfl (lv_at hl 0 rfl) ?_
  refine lv_iconst (v := (0 : Int32)) hx hb dX5_isTooMuch_1 (by decide) ?_
  refine g_put B h 44 (by decide) (C := RX5) (T := TX5) (N := 21) (M_row _) rfl hin_X5 tyX5 tyX5_ok nmX5 15 (by decide) hw844 rfl rfl rfl rfl (upd (σ 44) 15 (0 : Int32)) (M_put15 _ _) (Nat.le_of_ble_eq_true rfl) dX5_isTooMuch_2 (fun H locs h => ?_)
  obtain ⟨σ1, e1, hf⟩ := stl_some hf
  rw [← e1] at h
  refine lv_aload_n hx hb dX5_isTooMuch_5 rfl (lv_at hl 0 rfl) ?_
  refine lv_iload_n hx hb dX5_isTooMuch_6 rfl (lv_at hl 1 rfl) ?_
  refine lv_iload_n hx hb dX5_isTooMuch_7 rfl (lv_at hl 3 rfl) ?_
  obtain ⟨vr2, σ2, hq2, hf⟩ := wthn_some hf
  refine sRetC0 (g_runV (k := 44) (T := TX5) (N := 21) B h (ok_X5_gathers B.2.2.2.2.2.2.2.2 B.2.2.2.2.2.2.1 _ _ v1 v3 hq2) cw_X5_146 ⟨Nat.le_of_ble_eq_true rfl, Nat.le_of_ble_eq_true rfl⟩ (by decide) (M_row _) rfl rfl hl.1.symm rfl (Nat.le_of_ble_eq_true rfl) dX5_isTooMuch_8 ⟨Nat.zero_le _, Nat.zero_le _⟩) h (fun H locs h => ?_)
  refine lv_aload_n hx hb dX5_isTooMuch_11 rfl (lv_at hl 0 rfl) ?_
  refine lv_iload_n hx hb dX5_isTooMuch_12 rfl (lv_at hl 2 rfl) ?_
  refine lv_iload_n hx hb dX5_isTooMuch_13 rfl (lv_at hl 3 rfl) ?_
  obtain ⟨vr3, σ3, hq3, hf⟩ := wthn_some hf
  refine sRetC0 (g_runV (k := 44) (T := TX5) (N := 21) B h (ok_X5_gathers B.2.2.2.2.2.2.2.2 B.2.2.2.2.2.2.1 _ _ v2 v3 hq3) cw_X5_146 ⟨Nat.le_of_ble_eq_true rfl, Nat.le_of_ble_eq_true rfl⟩ (by decide) (M_row _) rfl rfl hl.1.symm rfl (Nat.le_of_ble_eq_true rfl) dX5_isTooMuch_14 ⟨Nat.zero_le _, Nat.zero_le _⟩) h (fun H locs h => ?_)
  refine lv_aload_n hx hb dX5_isTooMuch_17 rfl (lv_at hl 0 rfl) ?_
  refine g_get B h 44 (by decide) (C := RX5) (T := TX5) (N := 21) (M_row _) rfl hin_X5 2 (by decide) hw831 rfl rfl dX5_isTooMuch_18 ?_
  refine lv_iload_n hx hb dX5_isTooMuch_21 rfl (lv_at hl 3 rfl) ?_
  obtain ⟨c4, hf⟩ := chk_some hf
  refine g_iald B h 47 (by decide) (n := 3) (fun _ => rfl) (inb_in c4) dX5_isTooMuch_22 ?_
  refine lv_aload_n hx hb dX5_isTooMuch_23 rfl (lv_at hl 0 rfl) ?_
  refine g_get B h 44 (by decide) (C := RX5) (T := TX5) (N := 21) (M_row _) rfl hin_X5 15 (by decide) hw844 rfl rfl dX5_isTooMuch_24 ?_
  refine lv_iadd hx hb dX5_isTooMuch_27 ?_
  refine lv_bipush (v := (60 : Int32)) hx hb dX5_isTooMuch_28 (by decide) ?_
  refine lv_icmp_le (tgt := 37) hx hb dX5_isTooMuch_30 (by decide) (fun c5 => ?_) (fun c5 => ?_)
  · rw [if_pos c5] at hf
    refine lv_iconst (v := (0 : Int32)) hx hb dX5_isTooMuch_37 (by decide) ?_
    cases hf
    exact sE_z B hr h rfl dX5_isTooMuch_38
  · rw [if_neg c5] at hf
    refine lv_iconst (v := (1 : Int32)) hx hb dX5_isTooMuch_33 (by decide) ?_
    refine lv_goto (tgt := 38) hx hb dX5_isTooMuch_34 (by decide) ?_
    cases hf
    exact sE_z B hr h rfl dX5_isTooMuch_38
set_option maxRecDepth 100000 in
theorem ok_X5_isTooMuch {l : Launch} (hl0 : l.stackTraces = false) {D : va_G} {cy : Nat → ClassId} {ad : Nat → Nat} (hap : sAp ad) (X : sX) (σ : sM) (v1 : Int32) (v2 : Int32) (v3 : Int32) {r : Int32} {σ' : sM} (hf : f_X5_isTooMuch v1 v2 v3 σ = some (r, σ')) : sMet l yX5_isTooMuch (sWs yX5_isTooMuch cX5_isTooMuch 4 (some .boolean)) 3 72 0 0 D cy ad X σ [.ref (ad 44), .int v1, .int v2, .int v3] (.inr (some (.int r))) X σ' := by
  refine sMet_of (by decide +kernel) (Nat.le_of_ble_eq_true rfl) hap hl0 ?_
  intro p e s m args below meth c ls B hr htab hl h
  exact k_X5_isTooMuch_0 B hr _ _ _ _  hf _ _ _ h hl
set_option maxHeartbeats 4000000 in
set_option maxRecDepth 100000 in
theorem k_X5_isWay_0 {p : Program} {l : Launch} {e : Env} {s : State} {m : MethodId} {args : Array Value} {below : List Frame} {meth : Method} {c : Code} {D : va_G} {cy : Nat → ClassId} {ad : Nat → Nat} {X : sX} {r : Int32} (B : sB p l s m meth c args cX5_isWay 1 RX5 D cy ad) (hr : meth.sig.returnType = (some .boolean)) (v0 : Int32) (σ : sM) (hf : f_X5_isWay v0 σ = some r) : sGo p l e { frames := 0, cells := 0, slots := 0, locals := 0 } s m args below meth c D cy ad X 1 (sQ below args s 0 0 D cy ad (.inr (some (.int r))) X σ) σ 0 [(0, .int v0)] [] := by
  replace hf : (if v0 = (102 : Int32) then (some (1 : Int32)) else (if v0 = (99 : Int32) then (some (1 : Int32)) else (if v0 = (104 : Int32) then (some (1 : Int32)) else (if v0 = (108 : Int32) then (some (1 : Int32)) else (some (0 : Int32)))))) = some r := hf
  intro H locs ls h hl
  have hx := B.1
  have hb := B.2.1
  refine lv_iload_n hx hb dX5_isWay_0 rfl (lv_at hl 0 rfl) ?_
  refine lv_bipush (v := (102 : Int32)) hx hb dX5_isWay_1 (by decide) ?_
  refine lv_icmp_eq (tgt := 24) hx hb dX5_isWay_3 (by decide) (fun c1 => ?_) (fun c1 => ?_)
  · rw [if_pos c1] at hf
    refine lv_iconst (v := (1 : Int32)) hx hb dX5_isWay_24 (by decide) ?_
    refine lv_goto (tgt := 29) hx hb dX5_isWay_25 (by decide) ?_
    cases hf
    exact sE_z B hr h rfl dX5_isWay_29
  · rw [if_neg c1] at hf
    refine lv_iload_n hx hb dX5_isWay_6 rfl (lv_at hl 0 rfl) ?_
    refine lv_bipush (v := (99 : Int32)) hx hb dX5_isWay_7 (by decide) ?_
    refine lv_icmp_eq (tgt := 24) hx hb dX5_isWay_9 (by decide) (fun c2 => ?_) (fun c2 => ?_)
    · rw [if_pos c2] at hf
      refine lv_iconst (v := (1 : Int32)) hx hb dX5_isWay_24 (by decide) ?_
      refine lv_goto (tgt := 29) hx hb dX5_isWay_25 (by decide) ?_
      cases hf
      exact sE_z B hr h rfl dX5_isWay_29
    · rw [if_neg c2] at hf
      refine lv_iload_n hx hb dX5_isWay_12 rfl (lv_at hl 0 rfl) ?_
      refine lv_bipush (v := (104 : Int32)) hx hb dX5_isWay_13 (by decide) ?_
      refine lv_icmp_eq (tgt := 24) hx hb dX5_isWay_15 (by decide) (fun c3 => ?_) (fun c3 => ?_)
      · rw [if_pos c3] at hf
        refine lv_iconst (v := (1 : Int32)) hx hb dX5_isWay_24 (by decide) ?_
        refine lv_goto (tgt := 29) hx hb dX5_isWay_25 (by decide) ?_
        cases hf
        exact sE_z B hr h rfl dX5_isWay_29
      · rw [if_neg c3] at hf
        refine lv_iload_n hx hb dX5_isWay_18 rfl (lv_at hl 0 rfl) ?_
        refine lv_bipush (v := (108 : Int32)) hx hb dX5_isWay_19 (by decide) ?_
        refine lv_icmp_ne (tgt := 28) hx hb dX5_isWay_21 (by decide) (fun c4 => ?_) (fun c4 => ?_)
        · rw [if_neg c4] at hf
          refine lv_iconst (v := (0 : Int32)) hx hb dX5_isWay_28 (by decide) ?_
          cases hf
          exact sE_z B hr h rfl dX5_isWay_29
        · rw [if_pos c4] at hf
          refine lv_iconst (v := (1 : Int32)) hx hb dX5_isWay_24 (by decide) ?_
          refine lv_goto (tgt := 29) hx hb dX5_isWay_25 (by decide) ?_
          cases hf
          exact sE_z B hr h rfl dX5_isWay_29
set_option maxRecDepth 100000 in
theorem ok_X5_isWay {l : Launch} (hl0 : l.stackTraces = false) {D : va_G} {cy : Nat → ClassId} {ad : Nat → Nat} (hap : sAp ad) (X : sX) (σ : sM) (v0 : Int32) {r : Int32} (hf : f_X5_isWay v0 σ = some r) : sMet l yX5_isWay (sWs yX5_isWay cX5_isWay 1 (some .boolean)) 0 0 0 0 D cy ad X σ [.int v0] (.inr (some (.int r))) X σ := by
  refine sMet_of (by decide +kernel) (Nat.le_of_ble_eq_true rfl) hap hl0 ?_
  intro p e s m args below meth c ls B hr htab hl h
  exact k_X5_isWay_0 B hr _ _  hf _ _ _ h hl
set_option maxHeartbeats 4000000 in
set_option maxRecDepth 100000 in
theorem k_X5_keyAt_29 {p : Program} {l : Launch} {e : Env} {s : State} {m : MethodId} {args : Array Value} {below : List Frame} {meth : Method} {c : Code} {D : va_G} {cy : Nat → ClassId} {ad : Nat → Nat} {X : sX} {r : Int32} {σ' : sM} (B : sB p l s m meth c args cX5_keyAt 4 RX5 D cy ad) (hr : meth.sig.returnType = (some .int)) (v1 : Int32) (v2 : Int32) (v3 : Int32) (vs1 : Int32) (σ : sM) (hf : b_X5_keyAt_29 v1 v2 v3 vs1 σ = some (r, σ')) : sGo p l e { frames := 2, cells := 0, slots := 0, locals := 42 } s m args below meth c D cy ad X 4 (sQ below args s 0 0 D cy ad (.inr (some (.int r))) X σ') σ 29 [(0, .ref (ad 44)), (1, .int v1), (2, .int v2), (3, .int v3)] [.int vs1, .ref (ad 44)] := by
  replace hf : (wthn (f_X5_refused vs1 σ) (fun vr6 σ6 => if vr6 = 0 then (if v3 = 0 then (chk (inb (((60 : Int32) * v1) + v2) 180) (some ((σ6 45 ((((60 : Int32) * v1) + v2)).toNatClampNeg), σ6))) else (chk (inb v1 3) (chk (inb (((60 : Int32) * v1) + (((σ6 47 (v1).toNatClampNeg) - (1 : Int32)) - v2)) 180) (some ((σ6 45 ((((60 : Int32) * v1) + (((σ6 47 (v1).toNatClampNeg) - (1 : Int32)) - v2))).toNatClampNeg), σ6))))) else (some ((0 : Int32), σ6)))) = some (r, σ') := hf
  intro H locs ls h hl
  have hx := B.1
  have hb := B.2.1
  obtain ⟨vr6, σ6, hq6, hf⟩ := wthn_some hf
  refine sRetC1 (g_runV (k := 44) (T := TX5) (N := 21) B h (ok_X5_refused B.2.2.2.2.2.2.2.2 B.2.2.2.2.2.2.1 _ _ vs1 hq6) cw_X5_95 ⟨Nat.le_of_ble_eq_true rfl, Nat.le_of_ble_eq_true rfl⟩ (by decide) (M_row _) rfl rfl hl.1.symm rfl (Nat.le_of_ble_eq_true rfl) dX5_keyAt_29 ⟨Nat.zero_le _, Nat.zero_le _⟩) h (fun H locs h => ?_)
  refine lv_if_eq (tgt := 37) hx hb dX5_keyAt_32 (by decide) (fun c7 => ?_) (fun c7 => ?_)
  · rw [if_pos c7] at hf
    refine lv_aload_n hx hb dX5_keyAt_37 rfl (lv_at hl 0 rfl) ?_
    refine g_get B h 44 (by decide) (C := RX5) (T := TX5) (N := 21) (M_row _) rfl hin_X5 0 (by decide) hw829 rfl rfl dX5_keyAt_38 ?_
    refine lv_bipush (v := (60 : Int32)) hx hb dX5_keyAt_41 (by decide) ?_
    refine lv_iload_n hx hb dX5_keyAt_43 rfl (lv_at hl 1 rfl) ?_
    refine lv_imul hx hb dX5_keyAt_44 ?_
    refine lv_iload_n hx hb dX5_keyAt_45 rfl (lv_at hl 3 rfl) ?_
    refine lv_if_eq (tgt := 62) hx hb dX5_keyAt_46 (by decide) (fun c8 => ?_) (fun c8 => ?_)
    · rw [if_pos c8] at hf
      refine lv_iload_n hx hb dX5_keyAt_62 rfl (lv_at hl 2 rfl) ?_
      refine lv_iadd hx hb dX5_keyAt_63 ?_
      obtain ⟨c9, hf⟩ := chk_some hf
      refine g_iald B h 45 (by decide) (n := 180) (fun _ => rfl) (inb_in c9) dX5_keyAt_64 ?_
      cases hf
      exact sE_i B hr h dX5_keyAt_65
    · rw [if_neg c8] at hf
      refine lv_aload_n hx hb dX5_keyAt_49 rfl (lv_at hl 0 rfl) ?_
      refine g_get B h 44 (by decide) (C := RX5) (T := TX5) (N := 21) (M_row _) rfl hin_X5 2 (by decide) hw831 rfl rfl dX5_keyAt_50 ?_
      refine lv_iload_n hx hb dX5_keyAt_53 rfl (lv_at hl 1 rfl) ?_
      obtain ⟨c10, hf⟩ := chk_some hf
      refine g_iald B h 47 (by decide) (n := 3) (fun _ => rfl) (inb_in c10) dX5_keyAt_54 ?_
      refine lv_iconst (v := (1 : Int32)) hx hb dX5_keyAt_55 (by decide) ?_
      refine lv_isub hx hb dX5_keyAt_56 ?_
      refine lv_iload_n hx hb dX5_keyAt_57 rfl (lv_at hl 2 rfl) ?_
      refine lv_isub hx hb dX5_keyAt_58 ?_
      refine lv_goto (tgt := 63) hx hb dX5_keyAt_59 (by decide) ?_
      refine lv_iadd hx hb dX5_keyAt_63 ?_
      obtain ⟨c11, hf⟩ := chk_some hf
      refine g_iald B h 45 (by decide) (n := 180) (fun _ => rfl) (inb_in c11) dX5_keyAt_64 ?_
      cases hf
      exact sE_i B hr h dX5_keyAt_65
  · rw [if_neg c7] at hf
    refine lv_iconst (v := (0 : Int32)) hx hb dX5_keyAt_35 (by decide) ?_
    cases hf
    exact sE_i B hr h dX5_keyAt_36
set_option maxHeartbeats 4000000 in
set_option maxRecDepth 100000 in
theorem k_X5_keyAt_0 {p : Program} {l : Launch} {e : Env} {s : State} {m : MethodId} {args : Array Value} {below : List Frame} {meth : Method} {c : Code} {D : va_G} {cy : Nat → ClassId} {ad : Nat → Nat} {X : sX} {r : Int32} {σ' : sM} (B : sB p l s m meth c args cX5_keyAt 4 RX5 D cy ad) (hr : meth.sig.returnType = (some .int)) (v1 : Int32) (v2 : Int32) (v3 : Int32) (σ : sM) (hf : f_X5_keyAt v1 v2 v3 σ = some (r, σ')) : sGo p l e { frames := 2, cells := 0, slots := 0, locals := 42 } s m args below meth c D cy ad X 4 (sQ below args s 0 0 D cy ad (.inr (some (.int r))) X σ') σ 0 [(0, .ref (ad 44)), (1, .int v1), (2, .int v2), (3, .int v3)] [] := by
  replace hf : (rthn (f_X5_isMap v1 σ) (fun vr1 => if vr1 = 0 then (b_X5_keyAt_29 v1 v2 v3 (1 : Int32) σ) else (chk (inb v1 3) (rthn (f_X5_in v2 (0 : Int32) ((σ 47 (v1).toNatClampNeg) - (1 : Int32)) σ) (fun vr4 => if vr4 = 0 then (b_X5_keyAt_29 v1 v2 v3 (1 : Int32) σ) else (b_X5_keyAt_29 v1 v2 v3 (0 : Int32) σ)))))) = some (r, σ') := hf
  intro H locs ls h hl
  have hx := B.1
  have hb := B.2.1
  refine lv_aload_n hx hb dX5_keyAt_0 rfl (lv_at hl 0 rfl) ?_
  refine lv_iload_n hx hb dX5_keyAt_1 rfl (lv_at hl 1 rfl) ?_
  obtain ⟨vr1, hq1, hf⟩ := rthn_some hf
  refine sRetC1 (g_runS B h (ok_X5_isMap B.2.2.2.2.2.2.2.2 B.2.2.2.2.2.2.1 _ _ v1 hq1) cw_X5_87 ⟨Nat.le_of_ble_eq_true rfl, Nat.le_of_ble_eq_true rfl⟩ rfl hl.1.symm rfl (Nat.le_of_ble_eq_true rfl) dX5_keyAt_2 ⟨Nat.zero_le _, Nat.zero_le _⟩) h (fun H locs h => ?_)
  refine lv_if_eq (tgt := 24) hx hb dX5_keyAt_5 (by decide) (fun c2 => ?_) (fun c2 => ?_)
  · rw [if_pos c2] at hf
    refine lv_iconst (v := (1 : Int32)) hx hb dX5_keyAt_24 (by decide) ?_
    refine lv_goto (tgt := 29) hx hb dX5_keyAt_25 (by decide) ?_
    exact k_X5_keyAt_29 B hr  _ _ _ _ _ hf _ _ _ h (lv_sub hl [0, 1, 2, 3] rfl)
  · rw [if_neg c2] at hf
    refine lv_iload_n hx hb dX5_keyAt_8 rfl (lv_at hl 2 rfl) ?_
    refine lv_iconst (v := (0 : Int32)) hx hb dX5_keyAt_9 (by decide) ?_
    refine lv_aload_n hx hb dX5_keyAt_10 rfl (lv_at hl 0 rfl) ?_
    refine g_get B h 44 (by decide) (C := RX5) (T := TX5) (N := 21) (M_row _) rfl hin_X5 2 (by decide) hw831 rfl rfl dX5_keyAt_11 ?_
    refine lv_iload_n hx hb dX5_keyAt_14 rfl (lv_at hl 1 rfl) ?_
    obtain ⟨c3, hf⟩ := chk_some hf
    refine g_iald B h 47 (by decide) (n := 3) (fun _ => rfl) (inb_in c3) dX5_keyAt_15 ?_
    refine lv_iconst (v := (1 : Int32)) hx hb dX5_keyAt_16 (by decide) ?_
    refine lv_isub hx hb dX5_keyAt_17 ?_
    obtain ⟨vr4, hq4, hf⟩ := rthn_some hf
    refine sRetC1 (g_runS B h (ok_X5_in B.2.2.2.2.2.2.2.2 B.2.2.2.2.2.2.1 _ _ v2 (0 : Int32) ((σ 47 (v1).toNatClampNeg) - (1 : Int32)) hq4) cw_X5_64 ⟨Nat.le_of_ble_eq_true rfl, Nat.le_of_ble_eq_true rfl⟩ rfl hl.1.symm rfl (Nat.le_of_ble_eq_true rfl) dX5_keyAt_18 ⟨Nat.zero_le _, Nat.zero_le _⟩) h (fun H locs h => ?_)
    refine lv_if_ne (tgt := 28) hx hb dX5_keyAt_21 (by decide) (fun c5 => ?_) (fun c5 => ?_)
    · rw [if_neg c5] at hf
      refine lv_iconst (v := (0 : Int32)) hx hb dX5_keyAt_28 (by decide) ?_
      exact k_X5_keyAt_29 B hr  _ _ _ _ _ hf _ _ _ h (lv_sub hl [0, 1, 2, 3] rfl)
    · rw [if_pos c5] at hf
      refine lv_iconst (v := (1 : Int32)) hx hb dX5_keyAt_24 (by decide) ?_
      refine lv_goto (tgt := 29) hx hb dX5_keyAt_25 (by decide) ?_
      exact k_X5_keyAt_29 B hr  _ _ _ _ _ hf _ _ _ h (lv_sub hl [0, 1, 2, 3] rfl)
set_option maxRecDepth 100000 in
theorem ok_X5_keyAt {l : Launch} (hl0 : l.stackTraces = false) {D : va_G} {cy : Nat → ClassId} {ad : Nat → Nat} (hap : sAp ad) (X : sX) (σ : sM) (v1 : Int32) (v2 : Int32) (v3 : Int32) {r : Int32} {σ' : sM} (hf : f_X5_keyAt v1 v2 v3 σ = some (r, σ')) : sMet l yX5_keyAt (sWs yX5_keyAt cX5_keyAt 4 (some .int)) 2 42 0 0 D cy ad X σ [.ref (ad 44), .int v1, .int v2, .int v3] (.inr (some (.int r))) X σ' := by
  refine sMet_of (by decide +kernel) (Nat.le_of_ble_eq_true rfl) hap hl0 ?_
  intro p e s m args below meth c ls B hr htab hl h
  exact k_X5_keyAt_0 B hr _ _ _ _  hf _ _ _ h hl
set_option maxHeartbeats 4000000 in
set_option maxRecDepth 100000 in
theorem k_X5_lies_0 {p : Program} {l : Launch} {e : Env} {s : State} {m : MethodId} {args : Array Value} {below : List Frame} {meth : Method} {c : Code} {D : va_G} {cy : Nat → ClassId} {ad : Nat → Nat} {X : sX} {r : Int32} {σ' : sM} (B : sB p l s m meth c args cX5_lies 3 RX5 D cy ad) (hr : meth.sig.returnType = (some .boolean)) (v1 : Int32) (v2 : Int32) (σ : sM) (hf : f_X5_lies v1 v2 σ = some (r, σ')) : sGo p l e { frames := 2, cells := 0, slots := 0, locals := 42 } s m args below meth c D cy ad X 3 (sQ below args s 0 0 D cy ad (.inr (some (.int r))) X σ') σ 0 [(0, .ref (ad 44)), (1, .int v1), (2, .int v2)] [] := by
  replace hf : (rthn (f_X5_isView v1 σ) (fun vr1 => if vr1 = 0 then (wthn (f_X5_refused (1 : Int32) σ) (fun vr13 σ13 => if vr13 = 0 then (rthn (f_X5_isIn v1 v2 σ13) (fun vr15 => if vr15 = 0 then (some ((0 : Int32), σ13)) else (some ((1 : Int32), σ13)))) else (some ((0 : Int32), σ13)))) else (chk (inb v1 4) (if (σ 48 (v1).toNatClampNeg) = 0 then (wthn (f_X5_refused (2 : Int32) σ) (fun vr9 σ9 => if vr9 = 0 then (rthn (f_X5_isIn v1 v2 σ9) (fun vr11 => if vr11 = 0 then (some ((0 : Int32), σ9)) else (some ((1 : Int32), σ9)))) else (some ((0 : Int32), σ9)))) else (wthn (f_X5_refused (0 : Int32) σ) (fun vr5 σ5 => if vr5 = 0 then (rthn (f_X5_isIn v1 v2 σ5) (fun vr7 => if vr7 = 0 then (some ((0 : Int32), σ5)) else (some ((1 : Int32), σ5)))) else (some ((0 : Int32), σ5)))))))) = some (r, σ') := hf
  intro H locs ls h hl
  have hx := B.1
  have hb := B.2.1
  refine lv_aload_n hx hb dX5_lies_0 rfl (lv_at hl 0 rfl) ?_
  refine lv_iload_n hx hb dX5_lies_1 rfl (lv_at hl 1 rfl) ?_
  obtain ⟨vr1, hq1, hf⟩ := rthn_some hf
  refine sRetC1 (g_runS B h (ok_X5_isView B.2.2.2.2.2.2.2.2 B.2.2.2.2.2.2.1 _ _ v1 hq1) cw_X5_126 ⟨Nat.le_of_ble_eq_true rfl, Nat.le_of_ble_eq_true rfl⟩ rfl hl.1.symm rfl (Nat.le_of_ble_eq_true rfl) dX5_lies_2 ⟨Nat.zero_le _, Nat.zero_le _⟩) h (fun H locs h => ?_)
  refine lv_if_ne (tgt := 12) hx hb dX5_lies_5 (by decide) (fun c2 => ?_) (fun c2 => ?_)
  · rw [if_neg c2] at hf
    refine lv_aload_n hx hb dX5_lies_12 rfl (lv_at hl 0 rfl) ?_
    refine g_get B h 44 (by decide) (C := RX5) (T := TX5) (N := 21) (M_row _) rfl hin_X5 3 (by decide) hw832 rfl rfl dX5_lies_13 ?_
    refine lv_iload_n hx hb dX5_lies_16 rfl (lv_at hl 1 rfl) ?_
    obtain ⟨c3, hf⟩ := chk_some hf
    refine g_zald B h 48 (by decide) (n := 4) (fun _ => rfl) (inb_in c3) dX5_lies_17 ?_
    refine lv_if_ne (tgt := 25) hx hb dX5_lies_18 (by decide) (fun c4 => ?_) (fun c4 => ?_)
    · rw [if_neg c4] at hf
      refine lv_iconst (v := (0 : Int32)) hx hb dX5_lies_25 (by decide) ?_
      obtain ⟨vr5, σ5, hq5, hf⟩ := wthn_some hf
      refine sRetC1 (g_runV (k := 44) (T := TX5) (N := 21) B h (ok_X5_refused B.2.2.2.2.2.2.2.2 B.2.2.2.2.2.2.1 _ _ (0 : Int32) hq5) cw_X5_95 ⟨Nat.le_of_ble_eq_true rfl, Nat.le_of_ble_eq_true rfl⟩ (by decide) (M_row _) rfl rfl hl.1.symm rfl (Nat.le_of_ble_eq_true rfl) dX5_lies_26 ⟨Nat.zero_le _, Nat.zero_le _⟩) h (fun H locs h => ?_)
      refine lv_if_ne (tgt := 45) hx hb dX5_lies_29 (by decide) (fun c6 => ?_) (fun c6 => ?_)
      · rw [if_neg c6] at hf
        refine lv_iconst (v := (0 : Int32)) hx hb dX5_lies_45 (by decide) ?_
        cases hf
        exact sE_z B hr h rfl dX5_lies_46
      · rw [if_pos c6] at hf
        refine lv_aload_n hx hb dX5_lies_32 rfl (lv_at hl 0 rfl) ?_
        refine lv_iload_n hx hb dX5_lies_33 rfl (lv_at hl 1 rfl) ?_
        refine lv_iload_n hx hb dX5_lies_34 rfl (lv_at hl 2 rfl) ?_
        obtain ⟨vr7, hq7, hf⟩ := rthn_some hf
        refine sRetC1 (g_runV (k := 44) (T := TX5) (N := 21) B h (ok_X5_isIn B.2.2.2.2.2.2.2.2 B.2.2.2.2.2.2.1 _ _ v1 v2 hq7) cw_X5_120 ⟨Nat.le_of_ble_eq_true rfl, Nat.le_of_ble_eq_true rfl⟩ (by decide) (M_row _) rfl rfl hl.1.symm rfl (Nat.le_of_ble_eq_true rfl) dX5_lies_35 ⟨Nat.zero_le _, Nat.zero_le _⟩) h (fun H locs h => ?_)
        refine lv_if_eq (tgt := 45) hx hb dX5_lies_38 (by decide) (fun c8 => ?_) (fun c8 => ?_)
        · rw [if_pos c8] at hf
          refine lv_iconst (v := (0 : Int32)) hx hb dX5_lies_45 (by decide) ?_
          cases hf
          exact sE_z B hr h rfl dX5_lies_46
        · rw [if_neg c8] at hf
          refine lv_iconst (v := (1 : Int32)) hx hb dX5_lies_41 (by decide) ?_
          refine lv_goto (tgt := 46) hx hb dX5_lies_42 (by decide) ?_
          cases hf
          exact sE_z B hr h rfl dX5_lies_46
    · rw [if_pos c4] at hf
      refine lv_iconst (v := (2 : Int32)) hx hb dX5_lies_21 (by decide) ?_
      refine lv_goto (tgt := 26) hx hb dX5_lies_22 (by decide) ?_
      obtain ⟨vr9, σ9, hq9, hf⟩ := wthn_some hf
      refine sRetC1 (g_runV (k := 44) (T := TX5) (N := 21) B h (ok_X5_refused B.2.2.2.2.2.2.2.2 B.2.2.2.2.2.2.1 _ _ (2 : Int32) hq9) cw_X5_95 ⟨Nat.le_of_ble_eq_true rfl, Nat.le_of_ble_eq_true rfl⟩ (by decide) (M_row _) rfl rfl hl.1.symm rfl (Nat.le_of_ble_eq_true rfl) dX5_lies_26 ⟨Nat.zero_le _, Nat.zero_le _⟩) h (fun H locs h => ?_)
      refine lv_if_ne (tgt := 45) hx hb dX5_lies_29 (by decide) (fun c10 => ?_) (fun c10 => ?_)
      · rw [if_neg c10] at hf
        refine lv_iconst (v := (0 : Int32)) hx hb dX5_lies_45 (by decide) ?_
        cases hf
        exact sE_z B hr h rfl dX5_lies_46
      · rw [if_pos c10] at hf
        refine lv_aload_n hx hb dX5_lies_32 rfl (lv_at hl 0 rfl) ?_
        refine lv_iload_n hx hb dX5_lies_33 rfl (lv_at hl 1 rfl) ?_
        refine lv_iload_n hx hb dX5_lies_34 rfl (lv_at hl 2 rfl) ?_
        obtain ⟨vr11, hq11, hf⟩ := rthn_some hf
        refine sRetC1 (g_runV (k := 44) (T := TX5) (N := 21) B h (ok_X5_isIn B.2.2.2.2.2.2.2.2 B.2.2.2.2.2.2.1 _ _ v1 v2 hq11) cw_X5_120 ⟨Nat.le_of_ble_eq_true rfl, Nat.le_of_ble_eq_true rfl⟩ (by decide) (M_row _) rfl rfl hl.1.symm rfl (Nat.le_of_ble_eq_true rfl) dX5_lies_35 ⟨Nat.zero_le _, Nat.zero_le _⟩) h (fun H locs h => ?_)
        refine lv_if_eq (tgt := 45) hx hb dX5_lies_38 (by decide) (fun c12 => ?_) (fun c12 => ?_)
        · rw [if_pos c12] at hf
          refine lv_iconst (v := (0 : Int32)) hx hb dX5_lies_45 (by decide) ?_
          cases hf
          exact sE_z B hr h rfl dX5_lies_46
        · rw [if_neg c12] at hf
          refine lv_iconst (v := (1 : Int32)) hx hb dX5_lies_41 (by decide) ?_
          refine lv_goto (tgt := 46) hx hb dX5_lies_42 (by decide) ?_
          cases hf
          exact sE_z B hr h rfl dX5_lies_46
  · rw [if_pos c2] at hf
    refine lv_iconst (v := (1 : Int32)) hx hb dX5_lies_8 (by decide) ?_
    refine lv_goto (tgt := 26) hx hb dX5_lies_9 (by decide) ?_
    obtain ⟨vr13, σ13, hq13, hf⟩ := wthn_some hf
    refine sRetC1 (g_runV (k := 44) (T := TX5) (N := 21) B h (ok_X5_refused B.2.2.2.2.2.2.2.2 B.2.2.2.2.2.2.1 _ _ (1 : Int32) hq13) cw_X5_95 ⟨Nat.le_of_ble_eq_true rfl, Nat.le_of_ble_eq_true rfl⟩ (by decide) (M_row _) rfl rfl hl.1.symm rfl (Nat.le_of_ble_eq_true rfl) dX5_lies_26 ⟨Nat.zero_le _, Nat.zero_le _⟩) h (fun H locs h => ?_)
    refine lv_if_ne (tgt := 45) hx hb dX5_lies_29 (by decide) (fun c14 => ?_) (fun c14 => ?_)
    · rw [if_neg c14] at hf
      refine lv_iconst (v := (0 : Int32)) hx hb dX5_lies_45 (by decide) ?_
      cases hf
      exact sE_z B hr h rfl dX5_lies_46
    · rw [if_pos c14] at hf
      refine lv_aload_n hx hb dX5_lies_32 rfl (lv_at hl 0 rfl) ?_
      refine lv_iload_n hx hb dX5_lies_33 rfl (lv_at hl 1 rfl) ?_
      refine lv_iload_n hx hb dX5_lies_34 rfl (lv_at hl 2 rfl) ?_
      obtain ⟨vr15, hq15, hf⟩ := rthn_some hf
      refine sRetC1 (g_runV (k := 44) (T := TX5) (N := 21) B h (ok_X5_isIn B.2.2.2.2.2.2.2.2 B.2.2.2.2.2.2.1 _ _ v1 v2 hq15) cw_X5_120 ⟨Nat.le_of_ble_eq_true rfl, Nat.le_of_ble_eq_true rfl⟩ (by decide) (M_row _) rfl rfl hl.1.symm rfl (Nat.le_of_ble_eq_true rfl) dX5_lies_35 ⟨Nat.zero_le _, Nat.zero_le _⟩) h (fun H locs h => ?_)
      refine lv_if_eq (tgt := 45) hx hb dX5_lies_38 (by decide) (fun c16 => ?_) (fun c16 => ?_)
      · rw [if_pos c16] at hf
        refine lv_iconst (v := (0 : Int32)) hx hb dX5_lies_45 (by decide) ?_
        cases hf
        exact sE_z B hr h rfl dX5_lies_46
      · rw [if_neg c16] at hf
        refine lv_iconst (v := (1 : Int32)) hx hb dX5_lies_41 (by decide) ?_
        refine lv_goto (tgt := 46) hx hb dX5_lies_42 (by decide) ?_
        cases hf
        exact sE_z B hr h rfl dX5_lies_46
set_option maxRecDepth 100000 in
theorem ok_X5_lies {l : Launch} (hl0 : l.stackTraces = false) {D : va_G} {cy : Nat → ClassId} {ad : Nat → Nat} (hap : sAp ad) (X : sX) (σ : sM) (v1 : Int32) (v2 : Int32) {r : Int32} {σ' : sM} (hf : f_X5_lies v1 v2 σ = some (r, σ')) : sMet l yX5_lies (sWs yX5_lies cX5_lies 3 (some .boolean)) 2 42 0 0 D cy ad X σ [.ref (ad 44), .int v1, .int v2] (.inr (some (.int r))) X σ' := by
  refine sMet_of (by decide +kernel) (Nat.le_of_ble_eq_true rfl) hap hl0 ?_
  intro p e s m args below meth c ls B hr htab hl h
  exact k_X5_lies_0 B hr _ _ _  hf _ _ _ h hl
set_option maxHeartbeats 4000000 in
set_option maxRecDepth 100000 in
theorem k_X5_mark_25 {p : Program} {l : Launch} {e : Env} {s : State} {m : MethodId} {args : Array Value} {below : List Frame} {meth : Method} {c : Code} {D : va_G} {cy : Nat → ClassId} {ad : Nat → Nat} {X : sX} {r : Int32} {σ' : sM} (B : sB p l s m meth c args cX5_mark 4 RX5 D cy ad) (hr : meth.sig.returnType = (some .int)) : ∀ (n : Nat) (v1 : Int32) (v2 : Int32) (v3 : Int32) (σ : sM), b_X5_mark_25 n v1 v2 v3 σ = some (r, σ') → sGo p l e { frames := 2, cells := 0, slots := 0, locals := 42 } s m args below meth c D cy ad X 4 (sQ below args s 0 0 D cy ad (.inr (some (.int r))) X σ') σ 25 [(0, .ref (ad 44)), (1, .int v1), (2, .int v2), (3, .int v3)] [] := by
  intro n
  induction n with
  | zero =>
    intro v1 v2 v3 σ hf
    exact nomatch (show none = some (r, σ') from hf)
  | succ n ih =>
    intro v1 v2 v3 σ hf
    replace hf : (chk (inb v1 3) (if (σ 47 (v1).toNatClampNeg) ≤ v3 then (some (v2, σ)) else (chk (inb (((60 : Int32) * v1) + v3) 180) (chk (inb (((60 : Int32) * v1) + v3) 180) (b_X5_mark_25 n v1 (v2 + ((σ 45 ((((60 : Int32) * v1) + v3)).toNatClampNeg) ^^^ (σ 46 ((((60 : Int32) * v1) + v3)).toNatClampNeg))) (v3 + 1) σ))))) = some (r, σ') := hf
    intro H locs ls h hl
    have hx := B.1
    have hb := B.2.1
    refine lv_iload_n hx hb dX5_mark_25 rfl (lv_at hl 3 rfl) ?_
    refine lv_aload_n hx hb dX5_mark_26 rfl (lv_at hl 0 rfl) ?_
    refine g_get B h 44 (by decide) (C := RX5) (T := TX5) (N := 21) (M_row _) rfl hin_X5 2 (by decide) hw831 rfl rfl dX5_mark_27 ?_
    refine lv_iload_n hx hb dX5_mark_30 rfl (lv_at hl 1 rfl) ?_
    obtain ⟨c7, hf⟩ := chk_some hf
    refine g_iald B h 47 (by decide) (n := 3) (fun _ => rfl) (inb_in c7) dX5_mark_31 ?_
    refine lv_icmp_ge (tgt := 67) hx hb dX5_mark_32 (by decide) (fun c8 => ?_) (fun c8 => ?_)
    · rw [if_pos c8] at hf
      refine lv_iload_n hx hb dX5_mark_67 rfl (lv_at hl 2 rfl) ?_
      cases hf
      exact sE_i B hr h dX5_mark_68
    · rw [if_neg c8] at hf
      refine lv_iload_n hx hb dX5_mark_35 rfl (lv_at hl 2 rfl) ?_
      refine lv_aload_n hx hb dX5_mark_36 rfl (lv_at hl 0 rfl) ?_
      refine g_get B h 44 (by decide) (C := RX5) (T := TX5) (N := 21) (M_row _) rfl hin_X5 0 (by decide) hw829 rfl rfl dX5_mark_37 ?_
      refine lv_bipush (v := (60 : Int32)) hx hb dX5_mark_40 (by decide) ?_
      refine lv_iload_n hx hb dX5_mark_42 rfl (lv_at hl 1 rfl) ?_
      refine lv_imul hx hb dX5_mark_43 ?_
      refine lv_iload_n hx hb dX5_mark_44 rfl (lv_at hl 3 rfl) ?_
      refine lv_iadd hx hb dX5_mark_45 ?_
      obtain ⟨c9, hf⟩ := chk_some hf
      refine g_iald B h 45 (by decide) (n := 180) (fun _ => rfl) (inb_in c9) dX5_mark_46 ?_
      refine lv_aload_n hx hb dX5_mark_47 rfl (lv_at hl 0 rfl) ?_
      refine g_get B h 44 (by decide) (C := RX5) (T := TX5) (N := 21) (M_row _) rfl hin_X5 1 (by decide) hw830 rfl rfl dX5_mark_48 ?_
      refine lv_bipush (v := (60 : Int32)) hx hb dX5_mark_51 (by decide) ?_
      refine lv_iload_n hx hb dX5_mark_53 rfl (lv_at hl 1 rfl) ?_
      refine lv_imul hx hb dX5_mark_54 ?_
      refine lv_iload_n hx hb dX5_mark_55 rfl (lv_at hl 3 rfl) ?_
      refine lv_iadd hx hb dX5_mark_56 ?_
      obtain ⟨c10, hf⟩ := chk_some hf
      refine g_iald B h 46 (by decide) (n := 180) (fun _ => rfl) (inb_in c10) dX5_mark_57 ?_
      refine lv_ixor hx hb dX5_mark_58 ?_
      refine lv_iadd hx hb dX5_mark_59 ?_
      refine lv_istore_n (lv' := [(2, .int (v2 + ((σ 45 ((((60 : Int32) * v1) + v3)).toNatClampNeg) ^^^ (σ 46 ((((60 : Int32) * v1) + v3)).toNatClampNeg)))), (0, .ref (ad 44)), (1, .int v1), (3, .int v3)]) hx hb dX5_mark_60 rfl hl (by decide) rfl (fun ls hl => ?_)
      refine lv_iinc (v := (v3 + 1)) (lv' := [(3, .int (v3 + 1)), (2, .int (v2 + ((σ 45 ((((60 : Int32) * v1) + v3)).toNatClampNeg) ^^^ (σ 46 ((((60 : Int32) * v1) + v3)).toNatClampNeg)))), (0, .ref (ad 44)), (1, .int v1)]) hx hb dX5_mark_61 hl (k := 3) rfl rfl (by decide) rfl (fun ls hl => ?_)
      refine lv_goto (tgt := 25) hx hb dX5_mark_64 (by decide) ?_
      exact ih _ _ _ _ hf _ _ _ h (lv_sub hl [2, 3, 1, 0] rfl)
set_option maxHeartbeats 4000000 in
set_option maxRecDepth 100000 in
theorem k_X5_mark_0 {p : Program} {l : Launch} {e : Env} {s : State} {m : MethodId} {args : Array Value} {below : List Frame} {meth : Method} {c : Code} {D : va_G} {cy : Nat → ClassId} {ad : Nat → Nat} {X : sX} {r : Int32} {σ' : sM} (B : sB p l s m meth c args cX5_mark 4 RX5 D cy ad) (hr : meth.sig.returnType = (some .int)) (v1 : Int32) (σ : sM) (hf : f_X5_mark v1 σ = some (r, σ')) : sGo p l e { frames := 2, cells := 0, slots := 0, locals := 42 } s m args below meth c D cy ad X 4 (sQ below args s 0 0 D cy ad (.inr (some (.int r))) X σ') σ 0 [(0, .ref (ad 44)), (1, .int v1)] [] := by
  replace hf : (rthn (f_X5_isMap v1 σ) (fun vr1 => if vr1 = 0 then (wthn (f_X5_refused (1 : Int32) σ) (fun vr5 σ5 => if vr5 = 0 then (b_X5_mark_25 FU v1 (0 : Int32) (0 : Int32) σ5) else (some ((0 : Int32), σ5)))) else (wthn (f_X5_refused (0 : Int32) σ) (fun vr3 σ3 => if vr3 = 0 then (b_X5_mark_25 FU v1 (0 : Int32) (0 : Int32) σ3) else (some ((0 : Int32), σ3)))))) = some (r, σ') := hf
  intro H locs ls h hl
  have hx := B.1
  have hb := B.2.1
  refine lv_aload_n hx hb dX5_mark_0 rfl (lv_at hl 0 rfl) ?_
  refine lv_iload_n hx hb dX5_mark_1 rfl (lv_at hl 1 rfl) ?_
  obtain ⟨vr1, hq1, hf⟩ := rthn_some hf
  refine sRetC1 (g_runS B h (ok_X5_isMap B.2.2.2.2.2.2.2.2 B.2.2.2.2.2.2.1 _ _ v1 hq1) cw_X5_87 ⟨Nat.le_of_ble_eq_true rfl, Nat.le_of_ble_eq_true rfl⟩ rfl hl.1.symm rfl (Nat.le_of_ble_eq_true rfl) dX5_mark_2 ⟨Nat.zero_le _, Nat.zero_le _⟩) h (fun H locs h => ?_)
  refine lv_if_ne (tgt := 12) hx hb dX5_mark_5 (by decide) (fun c2 => ?_) (fun c2 => ?_)
  · rw [if_neg c2] at hf
    refine lv_iconst (v := (0 : Int32)) hx hb dX5_mark_12 (by decide) ?_
    obtain ⟨vr3, σ3, hq3, hf⟩ := wthn_some hf
    refine sRetC1 (g_runV (k := 44) (T := TX5) (N := 21) B h (ok_X5_refused B.2.2.2.2.2.2.2.2 B.2.2.2.2.2.2.1 _ _ (0 : Int32) hq3) cw_X5_95 ⟨Nat.le_of_ble_eq_true rfl, Nat.le_of_ble_eq_true rfl⟩ (by decide) (M_row _) rfl rfl hl.1.symm rfl (Nat.le_of_ble_eq_true rfl) dX5_mark_13 ⟨Nat.zero_le _, Nat.zero_le _⟩) h (fun H locs h => ?_)
    refine lv_if_eq (tgt := 21) hx hb dX5_mark_16 (by decide) (fun c4 => ?_) (fun c4 => ?_)
    · rw [if_pos c4] at hf
      refine lv_iconst (v := (0 : Int32)) hx hb dX5_mark_21 (by decide) ?_
      refine lv_istore_n (lv' := [(2, .int (0 : Int32)), (0, .ref (ad 44)), (1, .int v1)]) hx hb dX5_mark_22 rfl hl (by decide) rfl (fun ls hl => ?_)
      refine lv_iconst (v := (0 : Int32)) hx hb dX5_mark_23 (by decide) ?_
      refine lv_istore_n (lv' := [(3, .int (0 : Int32)), (2, .int (0 : Int32)), (0, .ref (ad 44)), (1, .int v1)]) hx hb dX5_mark_24 rfl hl (by decide) rfl (fun ls hl => ?_)
      exact k_X5_mark_25 B hr  _ _ _ _ _ hf _ _ _ h (lv_sub hl [2, 3, 1, 0] rfl)
    · rw [if_neg c4] at hf
      refine lv_iconst (v := (0 : Int32)) hx hb dX5_mark_19 (by decide) ?_
      cases hf
      exact sE_i B hr h dX5_mark_20
  · rw [if_pos c2] at hf
    refine lv_iconst (v := (1 : Int32)) hx hb dX5_mark_8 (by decide) ?_
    refine lv_goto (tgt := 13) hx hb dX5_mark_9 (by decide) ?_
    obtain ⟨vr5, σ5, hq5, hf⟩ := wthn_some hf
    refine sRetC1 (g_runV (k := 44) (T := TX5) (N := 21) B h (ok_X5_refused B.2.2.2.2.2.2.2.2 B.2.2.2.2.2.2.1 _ _ (1 : Int32) hq5) cw_X5_95 ⟨Nat.le_of_ble_eq_true rfl, Nat.le_of_ble_eq_true rfl⟩ (by decide) (M_row _) rfl rfl hl.1.symm rfl (Nat.le_of_ble_eq_true rfl) dX5_mark_13 ⟨Nat.zero_le _, Nat.zero_le _⟩) h (fun H locs h => ?_)
    refine lv_if_eq (tgt := 21) hx hb dX5_mark_16 (by decide) (fun c6 => ?_) (fun c6 => ?_)
    · rw [if_pos c6] at hf
      refine lv_iconst (v := (0 : Int32)) hx hb dX5_mark_21 (by decide) ?_
      refine lv_istore_n (lv' := [(2, .int (0 : Int32)), (0, .ref (ad 44)), (1, .int v1)]) hx hb dX5_mark_22 rfl hl (by decide) rfl (fun ls hl => ?_)
      refine lv_iconst (v := (0 : Int32)) hx hb dX5_mark_23 (by decide) ?_
      refine lv_istore_n (lv' := [(3, .int (0 : Int32)), (2, .int (0 : Int32)), (0, .ref (ad 44)), (1, .int v1)]) hx hb dX5_mark_24 rfl hl (by decide) rfl (fun ls hl => ?_)
      exact k_X5_mark_25 B hr  _ _ _ _ _ hf _ _ _ h (lv_sub hl [2, 3, 1, 0] rfl)
    · rw [if_neg c6] at hf
      refine lv_iconst (v := (0 : Int32)) hx hb dX5_mark_19 (by decide) ?_
      cases hf
      exact sE_i B hr h dX5_mark_20
set_option maxRecDepth 100000 in
theorem ok_X5_mark {l : Launch} (hl0 : l.stackTraces = false) {D : va_G} {cy : Nat → ClassId} {ad : Nat → Nat} (hap : sAp ad) (X : sX) (σ : sM) (v1 : Int32) {r : Int32} {σ' : sM} (hf : f_X5_mark v1 σ = some (r, σ')) : sMet l yX5_mark (sWs yX5_mark cX5_mark 4 (some .int)) 2 42 0 0 D cy ad X σ [.ref (ad 44), .int v1] (.inr (some (.int r))) X σ' := by
  refine sMet_of (by decide +kernel) (Nat.le_of_ble_eq_true rfl) hap hl0 ?_
  intro p e s m args below meth c ls B hr htab hl h
  exact k_X5_mark_0 B hr _ _  hf _ _ _ h hl
set_option maxHeartbeats 4000000 in
set_option maxRecDepth 100000 in
theorem k_X5_meanKey_39 {p : Program} {l : Launch} {e : Env} {s : State} {m : MethodId} {args : Array Value} {below : List Frame} {meth : Method} {c : Code} {D : va_G} {cy : Nat → ClassId} {ad : Nat → Nat} {X : sX} {r : UInt64} {σ' : sM} (B : sB p l s m meth c args cX5_meanKey 5 RX5 D cy ad) (hr : meth.sig.returnType = (some .double)) : ∀ (n : Nat) (v1 : Int32) (v2 : Int64) (v4 : Int32) (σ : sM), b_X5_meanKey_39 n v1 v2 v4 σ = some (r, σ') → sGo p l e { frames := 2, cells := 0, slots := 0, locals := 42 } s m args below meth c D cy ad X 5 (sQ below args s 0 0 D cy ad (.inr (some (.double r))) X σ') σ 39 [(0, .ref (ad 44)), (1, .int v1), (2, .long v2), (4, .int v4)] [] := by
  intro n
  induction n with
  | zero =>
    intro v1 v2 v4 σ hf
    exact nomatch (show none = some (r, σ') from hf)
  | succ n ih =>
    intro v1 v2 v4 σ hf
    replace hf : (chk (inb v1 3) (if (σ 47 (v1).toNatClampNeg) ≤ v4 then (chk (inb v1 3) (chk (nn64 (FP.ddiv (FP.l2d v2) (FP.i2d (σ 47 (v1).toNatClampNeg)))) (some ((FP.ddiv (FP.l2d v2) (FP.i2d (σ 47 (v1).toNatClampNeg))), σ)))) else (chk (inb (((60 : Int32) * v1) + v4) 180) (b_X5_meanKey_39 n v1 (v2 + ((σ 45 ((((60 : Int32) * v1) + v4)).toNatClampNeg).toInt64)) (v4 + 1) σ)))) = some (r, σ') := hf
    intro H locs ls h hl
    have hx := B.1
    have hb := B.2.1
    refine lv_iload hx hb dX5_meanKey_39 (lv_at hl 3 rfl) ?_
    refine lv_aload_n hx hb dX5_meanKey_41 rfl (lv_at hl 0 rfl) ?_
    refine g_get B h 44 (by decide) (C := RX5) (T := TX5) (N := 21) (M_row _) rfl hin_X5 2 (by decide) hw831 rfl rfl dX5_meanKey_42 ?_
    refine lv_iload_n hx hb dX5_meanKey_45 rfl (lv_at hl 1 rfl) ?_
    obtain ⟨c11, hf⟩ := chk_some hf
    refine g_iald B h 47 (by decide) (n := 3) (fun _ => rfl) (inb_in c11) dX5_meanKey_46 ?_
    refine lv_icmp_ge (tgt := 72) hx hb dX5_meanKey_47 (by decide) (fun c12 => ?_) (fun c12 => ?_)
    · rw [if_pos c12] at hf
      refine lv_lload_n hx hb dX5_meanKey_72 rfl (lv_at hl 2 rfl) ?_
      refine lv_l2d hx hb dX5_meanKey_73 ?_
      refine lv_aload_n hx hb dX5_meanKey_74 rfl (lv_at hl 0 rfl) ?_
      refine g_get B h 44 (by decide) (C := RX5) (T := TX5) (N := 21) (M_row _) rfl hin_X5 2 (by decide) hw831 rfl rfl dX5_meanKey_75 ?_
      refine lv_iload_n hx hb dX5_meanKey_78 rfl (lv_at hl 1 rfl) ?_
      obtain ⟨c13, hf⟩ := chk_some hf
      refine g_iald B h 47 (by decide) (n := 3) (fun _ => rfl) (inb_in c13) dX5_meanKey_79 ?_
      refine lv_i2d hx hb dX5_meanKey_80 ?_
      obtain ⟨c14, hf⟩ := chk_some hf
      refine lv_ddiv hx hb dX5_meanKey_81 (nn64_n c14) ?_
      cases hf
      exact sE_d B hr h dX5_meanKey_82
    · rw [if_neg c12] at hf
      refine lv_lload_n hx hb dX5_meanKey_50 rfl (lv_at hl 2 rfl) ?_
      refine lv_aload_n hx hb dX5_meanKey_51 rfl (lv_at hl 0 rfl) ?_
      refine g_get B h 44 (by decide) (C := RX5) (T := TX5) (N := 21) (M_row _) rfl hin_X5 0 (by decide) hw829 rfl rfl dX5_meanKey_52 ?_
      refine lv_bipush (v := (60 : Int32)) hx hb dX5_meanKey_55 (by decide) ?_
      refine lv_iload_n hx hb dX5_meanKey_57 rfl (lv_at hl 1 rfl) ?_
      refine lv_imul hx hb dX5_meanKey_58 ?_
      refine lv_iload hx hb dX5_meanKey_59 (lv_at hl 3 rfl) ?_
      refine lv_iadd hx hb dX5_meanKey_61 ?_
      obtain ⟨c15, hf⟩ := chk_some hf
      refine g_iald B h 45 (by decide) (n := 180) (fun _ => rfl) (inb_in c15) dX5_meanKey_62 ?_
      refine lv_i2l (v := ((σ 45 ((((60 : Int32) * v1) + v4)).toNatClampNeg).toInt64)) hx hb dX5_meanKey_63 rfl ?_
      refine lv_ladd hx hb dX5_meanKey_64 ?_
      refine lv_lstore_n (lv' := [(2, .long (v2 + ((σ 45 ((((60 : Int32) * v1) + v4)).toNatClampNeg).toInt64))), (0, .ref (ad 44)), (1, .int v1), (4, .int v4)]) hx hb dX5_meanKey_65 rfl hl (by decide) rfl (fun ls hl => ?_)
      refine lv_iinc (v := (v4 + 1)) (lv' := [(4, .int (v4 + 1)), (2, .long (v2 + ((σ 45 ((((60 : Int32) * v1) + v4)).toNatClampNeg).toInt64))), (0, .ref (ad 44)), (1, .int v1)]) hx hb dX5_meanKey_66 hl (k := 3) rfl rfl (by decide) rfl (fun ls hl => ?_)
      refine lv_goto (tgt := 39) hx hb dX5_meanKey_69 (by decide) ?_
      exact ih _ _ _ _ hf _ _ _ h (lv_sub hl [2, 3, 1, 0] rfl)
set_option maxHeartbeats 4000000 in
set_option maxRecDepth 100000 in
theorem k_X5_meanKey_0 {p : Program} {l : Launch} {e : Env} {s : State} {m : MethodId} {args : Array Value} {below : List Frame} {meth : Method} {c : Code} {D : va_G} {cy : Nat → ClassId} {ad : Nat → Nat} {X : sX} {r : UInt64} {σ' : sM} (B : sB p l s m meth c args cX5_meanKey 5 RX5 D cy ad) (hr : meth.sig.returnType = (some .double)) (v1 : Int32) (σ : sM) (hf : f_X5_meanKey v1 σ = some (r, σ')) : sGo p l e { frames := 2, cells := 0, slots := 0, locals := 42 } s m args below meth c D cy ad X 5 (sQ below args s 0 0 D cy ad (.inr (some (.double r))) X σ') σ 0 [(0, .ref (ad 44)), (1, .int v1)] [] := by
  replace hf : (rthn (f_X5_isMap v1 σ) (fun vr1 => if vr1 = 0 then (wthn (f_X5_refused (1 : Int32) σ) (fun vr9 σ9 => if vr9 = 0 then (b_X5_meanKey_39 FU v1 (0 : Int64) (0 : Int32) σ9) else (some (FP.dconst0, σ9)))) else (chk (inb v1 3) (if (σ 47 (v1).toNatClampNeg) = 0 then (wthn (f_X5_refused (2 : Int32) σ) (fun vr7 σ7 => if vr7 = 0 then (b_X5_meanKey_39 FU v1 (0 : Int64) (0 : Int32) σ7) else (some (FP.dconst0, σ7)))) else (wthn (f_X5_refused (0 : Int32) σ) (fun vr5 σ5 => if vr5 = 0 then (b_X5_meanKey_39 FU v1 (0 : Int64) (0 : Int32) σ5) else (some (FP.dconst0, σ5)))))))) = some (r, σ') := hf
  intro H locs ls h hl
  have hx := B.1
  have hb := B.2.1
  refine lv_aload_n hx hb dX5_meanKey_0 rfl (lv_at hl 0 rfl) ?_
  refine lv_iload_n hx hb dX5_meanKey_1 rfl (lv_at hl 1 rfl) ?_
  obtain ⟨vr1, hq1, hf⟩ := rthn_some hf
  refine sRetC1 (g_runS B h (ok_X5_isMap B.2.2.2.2.2.2.2.2 B.2.2.2.2.2.2.1 _ _ v1 hq1) cw_X5_87 ⟨Nat.le_of_ble_eq_true rfl, Nat.le_of_ble_eq_true rfl⟩ rfl hl.1.symm rfl (Nat.le_of_ble_eq_true rfl) dX5_meanKey_2 ⟨Nat.zero_le _, Nat.zero_le _⟩) h (fun H locs h => ?_)
  refine lv_if_ne (tgt := 12) hx hb dX5_meanKey_5 (by decide) (fun c2 => ?_) (fun c2 => ?_)
  · rw [if_neg c2] at hf
    refine lv_aload_n hx hb dX5_meanKey_12 rfl (lv_at hl 0 rfl) ?_
    refine g_get B h 44 (by decide) (C := RX5) (T := TX5) (N := 21) (M_row _) rfl hin_X5 2 (by decide) hw831 rfl rfl dX5_meanKey_13 ?_
    refine lv_iload_n hx hb dX5_meanKey_16 rfl (lv_at hl 1 rfl) ?_
    obtain ⟨c3, hf⟩ := chk_some hf
    refine g_iald B h 47 (by decide) (n := 3) (fun _ => rfl) (inb_in c3) dX5_meanKey_17 ?_
    refine lv_if_ne (tgt := 25) hx hb dX5_meanKey_18 (by decide) (fun c4 => ?_) (fun c4 => ?_)
    · rw [if_neg c4] at hf
      refine lv_iconst (v := (0 : Int32)) hx hb dX5_meanKey_25 (by decide) ?_
      obtain ⟨vr5, σ5, hq5, hf⟩ := wthn_some hf
      refine sRetC1 (g_runV (k := 44) (T := TX5) (N := 21) B h (ok_X5_refused B.2.2.2.2.2.2.2.2 B.2.2.2.2.2.2.1 _ _ (0 : Int32) hq5) cw_X5_95 ⟨Nat.le_of_ble_eq_true rfl, Nat.le_of_ble_eq_true rfl⟩ (by decide) (M_row _) rfl rfl hl.1.symm rfl (Nat.le_of_ble_eq_true rfl) dX5_meanKey_26 ⟨Nat.zero_le _, Nat.zero_le _⟩) h (fun H locs h => ?_)
      refine lv_if_eq (tgt := 34) hx hb dX5_meanKey_29 (by decide) (fun c6 => ?_) (fun c6 => ?_)
      · rw [if_pos c6] at hf
        refine lv_lconst (v := (0 : Int64)) hx hb dX5_meanKey_34 (by decide) ?_
        refine lv_lstore_n (lv' := [(2, .long (0 : Int64)), (0, .ref (ad 44)), (1, .int v1)]) hx hb dX5_meanKey_35 rfl hl (by decide) rfl (fun ls hl => ?_)
        refine lv_iconst (v := (0 : Int32)) hx hb dX5_meanKey_36 (by decide) ?_
        refine lv_istore (lv' := [(4, .int (0 : Int32)), (2, .long (0 : Int64)), (0, .ref (ad 44)), (1, .int v1)]) hx hb dX5_meanKey_37 hl (by decide) rfl (fun ls hl => ?_)
        exact k_X5_meanKey_39 B hr  _ _ _ _ _ hf _ _ _ h (lv_sub hl [2, 3, 1, 0] rfl)
      · rw [if_neg c6] at hf
        refine lv_dconst0 hx hb dX5_meanKey_32 ?_
        cases hf
        exact sE_d B hr h dX5_meanKey_33
    · rw [if_pos c4] at hf
      refine lv_iconst (v := (2 : Int32)) hx hb dX5_meanKey_21 (by decide) ?_
      refine lv_goto (tgt := 26) hx hb dX5_meanKey_22 (by decide) ?_
      obtain ⟨vr7, σ7, hq7, hf⟩ := wthn_some hf
      refine sRetC1 (g_runV (k := 44) (T := TX5) (N := 21) B h (ok_X5_refused B.2.2.2.2.2.2.2.2 B.2.2.2.2.2.2.1 _ _ (2 : Int32) hq7) cw_X5_95 ⟨Nat.le_of_ble_eq_true rfl, Nat.le_of_ble_eq_true rfl⟩ (by decide) (M_row _) rfl rfl hl.1.symm rfl (Nat.le_of_ble_eq_true rfl) dX5_meanKey_26 ⟨Nat.zero_le _, Nat.zero_le _⟩) h (fun H locs h => ?_)
      refine lv_if_eq (tgt := 34) hx hb dX5_meanKey_29 (by decide) (fun c8 => ?_) (fun c8 => ?_)
      · rw [if_pos c8] at hf
        refine lv_lconst (v := (0 : Int64)) hx hb dX5_meanKey_34 (by decide) ?_
        refine lv_lstore_n (lv' := [(2, .long (0 : Int64)), (0, .ref (ad 44)), (1, .int v1)]) hx hb dX5_meanKey_35 rfl hl (by decide) rfl (fun ls hl => ?_)
        refine lv_iconst (v := (0 : Int32)) hx hb dX5_meanKey_36 (by decide) ?_
        refine lv_istore (lv' := [(4, .int (0 : Int32)), (2, .long (0 : Int64)), (0, .ref (ad 44)), (1, .int v1)]) hx hb dX5_meanKey_37 hl (by decide) rfl (fun ls hl => ?_)
        exact k_X5_meanKey_39 B hr  _ _ _ _ _ hf _ _ _ h (lv_sub hl [2, 3, 1, 0] rfl)
      · rw [if_neg c8] at hf
        refine lv_dconst0 hx hb dX5_meanKey_32 ?_
        cases hf
        exact sE_d B hr h dX5_meanKey_33
  · rw [if_pos c2] at hf
    refine lv_iconst (v := (1 : Int32)) hx hb dX5_meanKey_8 (by decide) ?_
    refine lv_goto (tgt := 26) hx hb dX5_meanKey_9 (by decide) ?_
    obtain ⟨vr9, σ9, hq9, hf⟩ := wthn_some hf
    refine sRetC1 (g_runV (k := 44) (T := TX5) (N := 21) B h (ok_X5_refused B.2.2.2.2.2.2.2.2 B.2.2.2.2.2.2.1 _ _ (1 : Int32) hq9) cw_X5_95 ⟨Nat.le_of_ble_eq_true rfl, Nat.le_of_ble_eq_true rfl⟩ (by decide) (M_row _) rfl rfl hl.1.symm rfl (Nat.le_of_ble_eq_true rfl) dX5_meanKey_26 ⟨Nat.zero_le _, Nat.zero_le _⟩) h (fun H locs h => ?_)
    refine lv_if_eq (tgt := 34) hx hb dX5_meanKey_29 (by decide) (fun c10 => ?_) (fun c10 => ?_)
    · rw [if_pos c10] at hf
      refine lv_lconst (v := (0 : Int64)) hx hb dX5_meanKey_34 (by decide) ?_
      refine lv_lstore_n (lv' := [(2, .long (0 : Int64)), (0, .ref (ad 44)), (1, .int v1)]) hx hb dX5_meanKey_35 rfl hl (by decide) rfl (fun ls hl => ?_)
      refine lv_iconst (v := (0 : Int32)) hx hb dX5_meanKey_36 (by decide) ?_
      refine lv_istore (lv' := [(4, .int (0 : Int32)), (2, .long (0 : Int64)), (0, .ref (ad 44)), (1, .int v1)]) hx hb dX5_meanKey_37 hl (by decide) rfl (fun ls hl => ?_)
      exact k_X5_meanKey_39 B hr  _ _ _ _ _ hf _ _ _ h (lv_sub hl [2, 3, 1, 0] rfl)
    · rw [if_neg c10] at hf
      refine lv_dconst0 hx hb dX5_meanKey_32 ?_
      cases hf
      exact sE_d B hr h dX5_meanKey_33
set_option maxRecDepth 100000 in
theorem ok_X5_meanKey {l : Launch} (hl0 : l.stackTraces = false) {D : va_G} {cy : Nat → ClassId} {ad : Nat → Nat} (hap : sAp ad) (X : sX) (σ : sM) (v1 : Int32) {r : UInt64} {σ' : sM} (hf : f_X5_meanKey v1 σ = some (r, σ')) : sMet l yX5_meanKey (sWs yX5_meanKey cX5_meanKey 5 (some .double)) 2 42 0 0 D cy ad X σ [.ref (ad 44), .int v1] (.inr (some (.double r))) X σ' := by
  refine sMet_of (by decide +kernel) (Nat.le_of_ble_eq_true rfl) hap hl0 ?_
  intro p e s m args below meth c ls B hr htab hl h
  exact k_X5_meanKey_0 B hr _ _  hf _ _ _ h hl
set_option maxHeartbeats 4000000 in
set_option maxRecDepth 100000 in
theorem k_X5_meet_44 {p : Program} {l : Launch} {e : Env} {s : State} {m : MethodId} {args : Array Value} {below : List Frame} {meth : Method} {c : Code} {D : va_G} {cy : Nat → ClassId} {ad : Nat → Nat} {X : sX} {r : Int32} {σ' : sM} (B : sB p l s m meth c args cX5_meet 5 RX5 D cy ad) (hr : meth.sig.returnType = (some .int)) : ∀ (n : Nat) (v2 : Int32) (v3 : Int32) (v4 : Int32) (σ : sM), b_X5_meet_44 n v2 v3 v4 σ = some (r, σ') → sGo p l e { frames := 3, cells := 0, slots := 0, locals := 72 } s m args below meth c D cy ad X 5 (sQ below args s 0 0 D cy ad (.inr (some (.int r))) X σ') σ 44 [(0, .ref (ad 44)), (2, .int v2), (3, .int v3), (4, .int v4)] [] := by
  intro n
  induction n with
  | zero =>
    intro v2 v3 v4 σ hf
    exact nomatch (show none = some (r, σ') from hf)
  | succ n ih =>
    intro v2 v3 v4 σ hf
    replace hf : (if (σ 44 15) ≤ v4 then (some (v3, σ)) else (chk (inb v4 60) (rthn (f_X5_hasKey v2 (σ 59 (v4).toNatClampNeg) σ) (fun vr11 => if vr11 = 0 then (b_X5_meet_44 n v2 (v3 + (0 : Int32)) (v4 + 1) σ) else (b_X5_meet_44 n v2 (v3 + (1 : Int32)) (v4 + 1) σ))))) = some (r, σ') := hf
    intro H locs ls h hl
    have hx := B.1
    have hb := B.2.1
    refine lv_iload hx hb dX5_meet_44 (lv_at hl 3 rfl) ?_
    refine lv_aload_n hx hb dX5_meet_46 rfl (lv_at hl 0 rfl) ?_
    refine g_get B h 44 (by decide) (C := RX5) (T := TX5) (N := 21) (M_row _) rfl hin_X5 15 (by decide) hw844 rfl rfl dX5_meet_47 ?_
    refine lv_icmp_ge (tgt := 82) hx hb dX5_meet_50 (by decide) (fun c9 => ?_) (fun c9 => ?_)
    · rw [if_pos c9] at hf
      refine lv_iload_n hx hb dX5_meet_82 rfl (lv_at hl 2 rfl) ?_
      cases hf
      exact sE_i B hr h dX5_meet_83
    · rw [if_neg c9] at hf
      refine lv_iload_n hx hb dX5_meet_53 rfl (lv_at hl 2 rfl) ?_
      refine lv_aload_n hx hb dX5_meet_54 rfl (lv_at hl 0 rfl) ?_
      refine lv_iload_n hx hb dX5_meet_55 rfl (lv_at hl 1 rfl) ?_
      refine lv_aload_n hx hb dX5_meet_56 rfl (lv_at hl 0 rfl) ?_
      refine g_get B h 44 (by decide) (C := RX5) (T := TX5) (N := 21) (M_row _) rfl hin_X5 14 (by decide) hw843 rfl rfl dX5_meet_57 ?_
      refine lv_iload hx hb dX5_meet_60 (lv_at hl 3 rfl) ?_
      obtain ⟨c10, hf⟩ := chk_some hf
      refine g_iald B h 59 (by decide) (n := 60) (fun _ => rfl) (inb_in c10) dX5_meet_62 ?_
      obtain ⟨vr11, hq11, hf⟩ := rthn_some hf
      refine sRetC1 (g_runV (k := 44) (T := TX5) (N := 21) B h (ok_X5_hasKey B.2.2.2.2.2.2.2.2 B.2.2.2.2.2.2.1 _ _ v2 (σ 59 (v4).toNatClampNeg) hq11) cw_X5_155 ⟨Nat.le_of_ble_eq_true rfl, Nat.le_of_ble_eq_true rfl⟩ (by decide) (M_row _) rfl rfl hl.1.symm rfl (Nat.le_of_ble_eq_true rfl) dX5_meet_63 ⟨Nat.zero_le _, Nat.zero_le _⟩) h (fun H locs h => ?_)
      refine lv_if_eq (tgt := 73) hx hb dX5_meet_66 (by decide) (fun c12 => ?_) (fun c12 => ?_)
      · rw [if_pos c12] at hf
        refine lv_iconst (v := (0 : Int32)) hx hb dX5_meet_73 (by decide) ?_
        refine lv_iadd hx hb dX5_meet_74 ?_
        refine lv_istore_n (lv' := [(3, .int (v3 + (0 : Int32))), (0, .ref (ad 44)), (2, .int v2), (4, .int v4)]) hx hb dX5_meet_75 rfl hl (by decide) rfl (fun ls hl => ?_)
        refine lv_iinc (v := (v4 + 1)) (lv' := [(4, .int (v4 + 1)), (3, .int (v3 + (0 : Int32))), (0, .ref (ad 44)), (2, .int v2)]) hx hb dX5_meet_76 hl (k := 3) rfl rfl (by decide) rfl (fun ls hl => ?_)
        refine lv_goto (tgt := 44) hx hb dX5_meet_79 (by decide) ?_
        exact ih _ _ _ _ hf _ _ _ h (lv_sub hl [2, 3, 1, 0] rfl)
      · rw [if_neg c12] at hf
        refine lv_iconst (v := (1 : Int32)) hx hb dX5_meet_69 (by decide) ?_
        refine lv_goto (tgt := 74) hx hb dX5_meet_70 (by decide) ?_
        refine lv_iadd hx hb dX5_meet_74 ?_
        refine lv_istore_n (lv' := [(3, .int (v3 + (1 : Int32))), (0, .ref (ad 44)), (2, .int v2), (4, .int v4)]) hx hb dX5_meet_75 rfl hl (by decide) rfl (fun ls hl => ?_)
        refine lv_iinc (v := (v4 + 1)) (lv' := [(4, .int (v4 + 1)), (3, .int (v3 + (1 : Int32))), (0, .ref (ad 44)), (2, .int v2)]) hx hb dX5_meet_76 hl (k := 3) rfl rfl (by decide) rfl (fun ls hl => ?_)
        refine lv_goto (tgt := 44) hx hb dX5_meet_79 (by decide) ?_
        exact ih _ _ _ _ hf _ _ _ h (lv_sub hl [2, 3, 1, 0] rfl)
set_option maxHeartbeats 4000000 in
set_option maxRecDepth 100000 in
theorem k_X5_meet_20 {p : Program} {l : Launch} {e : Env} {s : State} {m : MethodId} {args : Array Value} {below : List Frame} {meth : Method} {c : Code} {D : va_G} {cy : Nat → ClassId} {ad : Nat → Nat} {X : sX} {r : Int32} {σ' : sM} (B : sB p l s m meth c args cX5_meet 5 RX5 D cy ad) (hr : meth.sig.returnType = (some .int)) (v1 : Int32) (v2 : Int32) (vs1 : Int32) (σ : sM) (hf : b_X5_meet_20 v1 v2 vs1 σ = some (r, σ')) : sGo p l e { frames := 3, cells := 0, slots := 0, locals := 72 } s m args below meth c D cy ad X 5 (sQ below args s 0 0 D cy ad (.inr (some (.int r))) X σ') σ 20 [(0, .ref (ad 44)), (1, .int v1), (2, .int v2)] [.int vs1, .ref (ad 44)] := by
  replace hf : (wthn (f_X5_refused vs1 σ) (fun vr5 σ5 => if vr5 = 0 then (stl (va_up σ5 44 (upd (σ5 44) 15 (0 : Int32))) (fun σ7 => wthn (f_X5_gathers v1 (-1 : Int32) σ7) (fun _ σ8 => b_X5_meet_44 FU v2 (0 : Int32) (0 : Int32) σ8))) else (some ((0 : Int32), σ5)))) = some (r, σ') := hf
  intro H locs ls h hl
  have hx := B.1
  have hb := B.2.1
  obtain ⟨vr5, σ5, hq5, hf⟩ := wthn_some hf
  refine sRetC1 (g_runV (k := 44) (T := TX5) (N := 21) B h (ok_X5_refused B.2.2.2.2.2.2.2.2 B.2.2.2.2.2.2.1 _ _ vs1 hq5) cw_X5_95 ⟨Nat.le_of_ble_eq_true rfl, Nat.le_of_ble_eq_true rfl⟩ (by decide) (M_row _) rfl rfl hl.1.symm rfl (Nat.le_of_ble_eq_true rfl) dX5_meet_20 ⟨Nat.zero_le _, Nat.zero_le _⟩) h (fun H locs h => ?_)
  refine lv_if_eq (tgt := 28) hx hb dX5_meet_23 (by decide) (fun c6 => ?_) (fun c6 => ?_)
  · rw [if_pos c6] at hf
    refine lv_aload_n hx hb dX5_meet_28 rfl (lv_at hl 0 rfl) ?_
    refine lv_iconst (v := (0 : Int32)) hx hb dX5_meet_29 (by decide) ?_
    refine g_put B h 44 (by decide) (C := RX5) (T := TX5) (N := 21) (M_row _) rfl hin_X5 tyX5 tyX5_ok nmX5 15 (by decide) hw844 rfl rfl rfl rfl (upd (σ5 44) 15 (0 : Int32)) (M_put15 _ _) (Nat.le_of_ble_eq_true rfl) dX5_meet_30 (fun H locs h => ?_)
    obtain ⟨σ7, e7, hf⟩ := stl_some hf
    rw [← e7] at h
    refine lv_aload_n hx hb dX5_meet_33 rfl (lv_at hl 0 rfl) ?_
    refine lv_iload_n hx hb dX5_meet_34 rfl (lv_at hl 1 rfl) ?_
    refine lv_iconst (v := (-1 : Int32)) hx hb dX5_meet_35 (by decide) ?_
    obtain ⟨vr8, σ8, hq8, hf⟩ := wthn_some hf
    refine sRetC0 (g_runV (k := 44) (T := TX5) (N := 21) B h (ok_X5_gathers B.2.2.2.2.2.2.2.2 B.2.2.2.2.2.2.1 _ _ v1 (-1 : Int32) hq8) cw_X5_146 ⟨Nat.le_of_ble_eq_true rfl, Nat.le_of_ble_eq_true rfl⟩ (by decide) (M_row _) rfl rfl hl.1.symm rfl (Nat.le_of_ble_eq_true rfl) dX5_meet_36 ⟨Nat.zero_le _, Nat.zero_le _⟩) h (fun H locs h => ?_)
    refine lv_iconst (v := (0 : Int32)) hx hb dX5_meet_39 (by decide) ?_
    refine lv_istore_n (lv' := [(3, .int (0 : Int32)), (0, .ref (ad 44)), (1, .int v1), (2, .int v2)]) hx hb dX5_meet_40 rfl hl (by decide) rfl (fun ls hl => ?_)
    refine lv_iconst (v := (0 : Int32)) hx hb dX5_meet_41 (by decide) ?_
    refine lv_istore (lv' := [(4, .int (0 : Int32)), (3, .int (0 : Int32)), (0, .ref (ad 44)), (1, .int v1), (2, .int v2)]) hx hb dX5_meet_42 hl (by decide) rfl (fun ls hl => ?_)
    exact k_X5_meet_44 B hr  _ _ _ _ _ hf _ _ _ h (lv_sub hl [2, 4, 1, 0] rfl)
  · rw [if_neg c6] at hf
    refine lv_iconst (v := (0 : Int32)) hx hb dX5_meet_26 (by decide) ?_
    cases hf
    exact sE_i B hr h dX5_meet_27
set_option maxHeartbeats 4000000 in
set_option maxRecDepth 100000 in
theorem k_X5_meet_0 {p : Program} {l : Launch} {e : Env} {s : State} {m : MethodId} {args : Array Value} {below : List Frame} {meth : Method} {c : Code} {D : va_G} {cy : Nat → ClassId} {ad : Nat → Nat} {X : sX} {r : Int32} {σ' : sM} (B : sB p l s m meth c args cX5_meet 5 RX5 D cy ad) (hr : meth.sig.returnType = (some .int)) (v1 : Int32) (v2 : Int32) (σ : sM) (hf : f_X5_meet v1 v2 σ = some (r, σ')) : sGo p l e { frames := 3, cells := 0, slots := 0, locals := 72 } s m args below meth c D cy ad X 5 (sQ below args s 0 0 D cy ad (.inr (some (.int r))) X σ') σ 0 [(0, .ref (ad 44)), (1, .int v1), (2, .int v2)] [] := by
  replace hf : (rthn (f_X5_isHistory v1 σ) (fun vr1 => if vr1 = 0 then (b_X5_meet_20 v1 v2 (1 : Int32) σ) else (rthn (f_X5_isHistory v2 σ) (fun vr3 => if vr3 = 0 then (b_X5_meet_20 v1 v2 (1 : Int32) σ) else (b_X5_meet_20 v1 v2 (0 : Int32) σ))))) = some (r, σ') := hf
  intro H locs ls h hl
  have hx := B.1
  have hb := B.2.1
  refine lv_aload_n hx hb dX5_meet_0 rfl (lv_at hl 0 rfl) ?_
  refine lv_iload_n hx hb dX5_meet_1 rfl (lv_at hl 1 rfl) ?_
  obtain ⟨vr1, hq1, hf⟩ := rthn_some hf
  refine sRetC1 (g_runS B h (ok_X5_isHistory B.2.2.2.2.2.2.2.2 B.2.2.2.2.2.2.1 _ _ v1 hq1) cw_X5_136 ⟨Nat.le_of_ble_eq_true rfl, Nat.le_of_ble_eq_true rfl⟩ rfl hl.1.symm rfl (Nat.le_of_ble_eq_true rfl) dX5_meet_2 ⟨Nat.zero_le _, Nat.zero_le _⟩) h (fun H locs h => ?_)
  refine lv_if_eq (tgt := 15) hx hb dX5_meet_5 (by decide) (fun c2 => ?_) (fun c2 => ?_)
  · rw [if_pos c2] at hf
    refine lv_iconst (v := (1 : Int32)) hx hb dX5_meet_15 (by decide) ?_
    refine lv_goto (tgt := 20) hx hb dX5_meet_16 (by decide) ?_
    exact k_X5_meet_20 B hr  _ _ _ _ hf _ _ _ h (lv_sub hl [0, 1, 2] rfl)
  · rw [if_neg c2] at hf
    refine lv_iload_n hx hb dX5_meet_8 rfl (lv_at hl 2 rfl) ?_
    obtain ⟨vr3, hq3, hf⟩ := rthn_some hf
    refine sRetC1 (g_runS B h (ok_X5_isHistory B.2.2.2.2.2.2.2.2 B.2.2.2.2.2.2.1 _ _ v2 hq3) cw_X5_136 ⟨Nat.le_of_ble_eq_true rfl, Nat.le_of_ble_eq_true rfl⟩ rfl hl.1.symm rfl (Nat.le_of_ble_eq_true rfl) dX5_meet_9 ⟨Nat.zero_le _, Nat.zero_le _⟩) h (fun H locs h => ?_)
    refine lv_if_ne (tgt := 19) hx hb dX5_meet_12 (by decide) (fun c4 => ?_) (fun c4 => ?_)
    · rw [if_neg c4] at hf
      refine lv_iconst (v := (0 : Int32)) hx hb dX5_meet_19 (by decide) ?_
      exact k_X5_meet_20 B hr  _ _ _ _ hf _ _ _ h (lv_sub hl [0, 1, 2] rfl)
    · rw [if_pos c4] at hf
      refine lv_iconst (v := (1 : Int32)) hx hb dX5_meet_15 (by decide) ?_
      refine lv_goto (tgt := 20) hx hb dX5_meet_16 (by decide) ?_
      exact k_X5_meet_20 B hr  _ _ _ _ hf _ _ _ h (lv_sub hl [0, 1, 2] rfl)
set_option maxRecDepth 100000 in
theorem ok_X5_meet {l : Launch} (hl0 : l.stackTraces = false) {D : va_G} {cy : Nat → ClassId} {ad : Nat → Nat} (hap : sAp ad) (X : sX) (σ : sM) (v1 : Int32) (v2 : Int32) {r : Int32} {σ' : sM} (hf : f_X5_meet v1 v2 σ = some (r, σ')) : sMet l yX5_meet (sWs yX5_meet cX5_meet 5 (some .int)) 3 72 0 0 D cy ad X σ [.ref (ad 44), .int v1, .int v2] (.inr (some (.int r))) X σ' := by
  refine sMet_of (by decide +kernel) (Nat.le_of_ble_eq_true rfl) hap hl0 ?_
  intro p e s m args below meth c ls B hr htab hl h
  exact k_X5_meet_0 B hr _ _ _  hf _ _ _ h hl
set_option maxHeartbeats 4000000 in
set_option maxRecDepth 100000 in
theorem k_X5_nearAt_6 {p : Program} {l : Launch} {e : Env} {s : State} {m : MethodId} {args : Array Value} {below : List Frame} {meth : Method} {c : Code} {D : va_G} {cy : Nat → ClassId} {ad : Nat → Nat} {X : sX} {r : Int32} (B : sB p l s m meth c args cX5_nearAt 9 RX5 D cy ad) (hr : meth.sig.returnType = (some .int)) : ∀ (n : Nat) (v1 : Int32) (v3 : Int32) (v4 : Int32) (v5 : Int32) (v6 : Int32) (v7 : Int32) (σ : sM), b_X5_nearAt_6 n v1 v3 v4 v5 v6 v7 σ = some r → sGo p l e { frames := 1, cells := 0, slots := 0, locals := 22 } s m args below meth c D cy ad X 9 (sQ below args s 0 0 D cy ad (.inr (some (.int r))) X σ) σ 6 [(0, .ref (ad 44)), (1, .int v1), (3, .int v3), (4, .int v4), (5, .int v5), (6, .int v6), (7, .int v7)] [] := by
  intro n
  induction n with
  | zero =>
    intro v1 v3 v4 v5 v6 v7 σ hf
    exact nomatch (show none = some r from hf)
  | succ n ih =>
    intro v1 v3 v4 v5 v6 v7 σ hf
    replace hf : (if v3 ≤ v7 then (some v6) else (chk (inb (((60 : Int32) * v1) + v7) 180) (rthn (f_X5_isOnSide (σ 45 ((((60 : Int32) * v1) + v7)).toNatClampNeg) v4 v5 σ) (fun vr3 => if vr3 = 0 then (b_X5_nearAt_6 n v1 v3 v4 v5 v6 (v7 + 1) σ) else (if v6 < 0 then (b_X5_nearAt_6 n v1 v3 v4 v5 v7 (v7 + 1) σ) else (if v5 = (102 : Int32) then (b_X5_nearAt_6 n v1 v3 v4 v5 v7 (v7 + 1) σ) else (if v5 = (108 : Int32) then (b_X5_nearAt_6 n v1 v3 v4 v5 v7 (v7 + 1) σ) else (b_X5_nearAt_6 n v1 v3 v4 v5 v6 (v7 + 1) σ)))))))) = some r := hf
    intro H locs ls h hl
    have hx := B.1
    have hb := B.2.1
    refine lv_iload hx hb dX5_nearAt_6 (lv_at hl 6 rfl) ?_
    refine lv_iload_n hx hb dX5_nearAt_8 rfl (lv_at hl 2 rfl) ?_
    refine lv_icmp_ge (tgt := 72) hx hb dX5_nearAt_9 (by decide) (fun c1 => ?_) (fun c1 => ?_)
    · rw [if_pos c1] at hf
      refine lv_iload hx hb dX5_nearAt_72 (lv_at hl 5 rfl) ?_
      cases hf
      exact sE_i B hr h dX5_nearAt_74
    · rw [if_neg c1] at hf
      refine lv_aload_n hx hb dX5_nearAt_12 rfl (lv_at hl 0 rfl) ?_
      refine g_get B h 44 (by decide) (C := RX5) (T := TX5) (N := 21) (M_row _) rfl hin_X5 0 (by decide) hw829 rfl rfl dX5_nearAt_13 ?_
      refine lv_bipush (v := (60 : Int32)) hx hb dX5_nearAt_16 (by decide) ?_
      refine lv_iload_n hx hb dX5_nearAt_18 rfl (lv_at hl 1 rfl) ?_
      refine lv_imul hx hb dX5_nearAt_19 ?_
      refine lv_iload hx hb dX5_nearAt_20 (lv_at hl 6 rfl) ?_
      refine lv_iadd hx hb dX5_nearAt_22 ?_
      obtain ⟨c2, hf⟩ := chk_some hf
      refine g_iald B h 45 (by decide) (n := 180) (fun _ => rfl) (inb_in c2) dX5_nearAt_23 ?_
      refine lv_iload hx hb dX5_nearAt_24 (lv_at hl 3 rfl) ?_
      refine lv_iload hx hb dX5_nearAt_26 (lv_at hl 4 rfl) ?_
      obtain ⟨vr3, hq3, hf⟩ := rthn_some hf
      refine sRetC1 (g_runS B h (ok_X5_isOnSide B.2.2.2.2.2.2.2.2 B.2.2.2.2.2.2.1 _ _ (σ 45 ((((60 : Int32) * v1) + v7)).toNatClampNeg) v4 v5 hq3) cw_X5_83 ⟨Nat.le_of_ble_eq_true rfl, Nat.le_of_ble_eq_true rfl⟩ rfl hl.1.symm rfl (Nat.le_of_ble_eq_true rfl) dX5_nearAt_28 ⟨Nat.zero_le _, Nat.zero_le _⟩) h (fun H locs h => ?_)
      refine lv_istore (lv' := [(8, .int vr3), (0, .ref (ad 44)), (1, .int v1), (3, .int v3), (4, .int v4), (5, .int v5), (6, .int v6), (7, .int v7)]) hx hb dX5_nearAt_31 hl (by decide) rfl (fun ls hl => ?_)
      refine lv_iload hx hb dX5_nearAt_33 (lv_at hl 0 rfl) ?_
      refine lv_if_eq (tgt := 62) hx hb dX5_nearAt_35 (by decide) (fun c4 => ?_) (fun c4 => ?_)
      · rw [if_pos c4] at hf
        refine lv_iload hx hb dX5_nearAt_62 (lv_at hl 6 rfl) ?_
        refine lv_istore (lv' := [(6, .int v6), (8, .int vr3), (0, .ref (ad 44)), (1, .int v1), (3, .int v3), (4, .int v4), (5, .int v5), (7, .int v7)]) hx hb dX5_nearAt_64 hl (by decide) rfl (fun ls hl => ?_)
        refine lv_iinc (v := (v7 + 1)) (lv' := [(7, .int (v7 + 1)), (6, .int v6), (8, .int vr3), (0, .ref (ad 44)), (1, .int v1), (3, .int v3), (4, .int v4), (5, .int v5)]) hx hb dX5_nearAt_66 hl (k := 7) rfl rfl (by decide) rfl (fun ls hl => ?_)
        refine lv_goto (tgt := 6) hx hb dX5_nearAt_69 (by decide) ?_
        exact ih _ _ _ _ _ _ _ hf _ _ _ h (lv_sub hl [3, 4, 5, 6, 7, 1, 0] rfl)
      · rw [if_neg c4] at hf
        refine lv_iload hx hb dX5_nearAt_38 (lv_at hl 6 rfl) ?_
        refine lv_if_lt (tgt := 57) hx hb dX5_nearAt_40 (by decide) (fun c5 => ?_) (fun c5 => ?_)
        · rw [if_pos c5] at hf
          refine lv_iload hx hb dX5_nearAt_57 (lv_at hl 7 rfl) ?_
          refine lv_goto (tgt := 64) hx hb dX5_nearAt_59 (by decide) ?_
          refine lv_istore (lv' := [(6, .int v7), (8, .int vr3), (0, .ref (ad 44)), (1, .int v1), (3, .int v3), (4, .int v4), (5, .int v5), (7, .int v7)]) hx hb dX5_nearAt_64 hl (by decide) rfl (fun ls hl => ?_)
          refine lv_iinc (v := (v7 + 1)) (lv' := [(7, .int (v7 + 1)), (6, .int v7), (8, .int vr3), (0, .ref (ad 44)), (1, .int v1), (3, .int v3), (4, .int v4), (5, .int v5)]) hx hb dX5_nearAt_66 hl (k := 7) rfl rfl (by decide) rfl (fun ls hl => ?_)
          refine lv_goto (tgt := 6) hx hb dX5_nearAt_69 (by decide) ?_
          exact ih _ _ _ _ _ _ _ hf _ _ _ h (lv_sub hl [3, 4, 5, 6, 7, 1, 0] rfl)
        · rw [if_neg c5] at hf
          refine lv_iload hx hb dX5_nearAt_43 (lv_at hl 5 rfl) ?_
          refine lv_bipush (v := (102 : Int32)) hx hb dX5_nearAt_45 (by decide) ?_
          refine lv_icmp_eq (tgt := 57) hx hb dX5_nearAt_47 (by decide) (fun c6 => ?_) (fun c6 => ?_)
          · rw [if_pos c6] at hf
            refine lv_iload hx hb dX5_nearAt_57 (lv_at hl 7 rfl) ?_
            refine lv_goto (tgt := 64) hx hb dX5_nearAt_59 (by decide) ?_
            refine lv_istore (lv' := [(6, .int v7), (8, .int vr3), (0, .ref (ad 44)), (1, .int v1), (3, .int v3), (4, .int v4), (5, .int v5), (7, .int v7)]) hx hb dX5_nearAt_64 hl (by decide) rfl (fun ls hl => ?_)
            refine lv_iinc (v := (v7 + 1)) (lv' := [(7, .int (v7 + 1)), (6, .int v7), (8, .int vr3), (0, .ref (ad 44)), (1, .int v1), (3, .int v3), (4, .int v4), (5, .int v5)]) hx hb dX5_nearAt_66 hl (k := 7) rfl rfl (by decide) rfl (fun ls hl => ?_)
            refine lv_goto (tgt := 6) hx hb dX5_nearAt_69 (by decide) ?_
            exact ih _ _ _ _ _ _ _ hf _ _ _ h (lv_sub hl [3, 4, 5, 6, 7, 1, 0] rfl)
          · rw [if_neg c6] at hf
            refine lv_iload hx hb dX5_nearAt_50 (lv_at hl 5 rfl) ?_
            refine lv_bipush (v := (108 : Int32)) hx hb dX5_nearAt_52 (by decide) ?_
            refine lv_icmp_ne (tgt := 62) hx hb dX5_nearAt_54 (by decide) (fun c7 => ?_) (fun c7 => ?_)
            · rw [if_neg c7] at hf
              refine lv_iload hx hb dX5_nearAt_62 (lv_at hl 6 rfl) ?_
              refine lv_istore (lv' := [(6, .int v6), (8, .int vr3), (0, .ref (ad 44)), (1, .int v1), (3, .int v3), (4, .int v4), (5, .int v5), (7, .int v7)]) hx hb dX5_nearAt_64 hl (by decide) rfl (fun ls hl => ?_)
              refine lv_iinc (v := (v7 + 1)) (lv' := [(7, .int (v7 + 1)), (6, .int v6), (8, .int vr3), (0, .ref (ad 44)), (1, .int v1), (3, .int v3), (4, .int v4), (5, .int v5)]) hx hb dX5_nearAt_66 hl (k := 7) rfl rfl (by decide) rfl (fun ls hl => ?_)
              refine lv_goto (tgt := 6) hx hb dX5_nearAt_69 (by decide) ?_
              exact ih _ _ _ _ _ _ _ hf _ _ _ h (lv_sub hl [3, 4, 5, 6, 7, 1, 0] rfl)
            · rw [if_pos c7] at hf
              refine lv_iload hx hb dX5_nearAt_57 (lv_at hl 7 rfl) ?_
              refine lv_goto (tgt := 64) hx hb dX5_nearAt_59 (by decide) ?_
              refine lv_istore (lv' := [(6, .int v7), (8, .int vr3), (0, .ref (ad 44)), (1, .int v1), (3, .int v3), (4, .int v4), (5, .int v5), (7, .int v7)]) hx hb dX5_nearAt_64 hl (by decide) rfl (fun ls hl => ?_)
              refine lv_iinc (v := (v7 + 1)) (lv' := [(7, .int (v7 + 1)), (6, .int v7), (8, .int vr3), (0, .ref (ad 44)), (1, .int v1), (3, .int v3), (4, .int v4), (5, .int v5)]) hx hb dX5_nearAt_66 hl (k := 7) rfl rfl (by decide) rfl (fun ls hl => ?_)
              refine lv_goto (tgt := 6) hx hb dX5_nearAt_69 (by decide) ?_
              exact ih _ _ _ _ _ _ _ hf _ _ _ h (lv_sub hl [3, 4, 5, 6, 7, 1, 0] rfl)
set_option maxHeartbeats 4000000 in
set_option maxRecDepth 100000 in
theorem k_X5_nearAt_0 {p : Program} {l : Launch} {e : Env} {s : State} {m : MethodId} {args : Array Value} {below : List Frame} {meth : Method} {c : Code} {D : va_G} {cy : Nat → ClassId} {ad : Nat → Nat} {X : sX} {r : Int32} (B : sB p l s m meth c args cX5_nearAt 9 RX5 D cy ad) (hr : meth.sig.returnType = (some .int)) (v1 : Int32) (v2 : Int32) (v3 : Int32) (v4 : Int32) (v5 : Int32) (σ : sM) (hf : f_X5_nearAt v1 v2 v3 v4 v5 σ = some r) : sGo p l e { frames := 1, cells := 0, slots := 0, locals := 22 } s m args below meth c D cy ad X 9 (sQ below args s 0 0 D cy ad (.inr (some (.int r))) X σ) σ 0 [(0, .ref (ad 44)), (1, .int v1), (2, .int v2), (3, .int v3), (4, .int v4), (5, .int v5)] [] := by
  replace hf : (b_X5_nearAt_6 FU v1 v3 v4 v5 (-1 : Int32) v2 σ) = some r := hf
  intro H locs ls h hl
  have hx := B.1
  have hb := B.2.1
  refine lv_iconst (v := (-1 : Int32)) hx hb dX5_nearAt_0 (by decide) ?_
  refine lv_istore (lv' := [(6, .int (-1 : Int32)), (0, .ref (ad 44)), (1, .int v1), (2, .int v2), (3, .int v3), (4, .int v4), (5, .int v5)]) hx hb dX5_nearAt_1 hl (by decide) rfl (fun ls hl => ?_)
  refine lv_iload_n hx hb dX5_nearAt_3 rfl (lv_at hl 3 rfl) ?_
  refine lv_istore (lv' := [(7, .int v2), (6, .int (-1 : Int32)), (0, .ref (ad 44)), (1, .int v1), (2, .int v2), (3, .int v3), (4, .int v4), (5, .int v5)]) hx hb dX5_nearAt_4 hl (by decide) rfl (fun ls hl => ?_)
  exact k_X5_nearAt_6 B hr  _ _ _ _ _ _ _ _ hf _ _ _ h (lv_sub hl [2, 3, 5, 6, 7, 1, 0] rfl)
set_option maxRecDepth 100000 in
theorem ok_X5_nearAt {l : Launch} (hl0 : l.stackTraces = false) {D : va_G} {cy : Nat → ClassId} {ad : Nat → Nat} (hap : sAp ad) (X : sX) (σ : sM) (v1 : Int32) (v2 : Int32) (v3 : Int32) (v4 : Int32) (v5 : Int32) {r : Int32} (hf : f_X5_nearAt v1 v2 v3 v4 v5 σ = some r) : sMet l yX5_nearAt (sWs yX5_nearAt cX5_nearAt 9 (some .int)) 1 22 0 0 D cy ad X σ [.ref (ad 44), .int v1, .int v2, .int v3, .int v4, .int v5] (.inr (some (.int r))) X σ := by
  refine sMet_of (by decide +kernel) (Nat.le_of_ble_eq_true rfl) hap hl0 ?_
  intro p e s m args below meth c ls B hr htab hl h
  exact k_X5_nearAt_0 B hr _ _ _ _ _ _  hf _ _ _ h hl
set_option maxHeartbeats 4000000 in
set_option maxRecDepth 100000 in
theorem k_X5_near_45 {p : Program} {l : Launch} {e : Env} {s : State} {m : MethodId} {args : Array Value} {below : List Frame} {meth : Method} {c : Code} {D : va_G} {cy : Nat → ClassId} {ad : Nat → Nat} {X : sX} {r : Int32} {σ' : sM} (B : sB p l s m meth c args cX5_near 4 RX5 D cy ad) (hr : meth.sig.returnType = (some .int)) (v1 : Int32) (v2 : Int32) (v3 : Int32) (vs1 : Int32) (σ : sM) (hf : b_X5_near_45 v1 v2 v3 vs1 σ = some (r, σ')) : sGo p l e { frames := 2, cells := 0, slots := 0, locals := 50 } s m args below meth c D cy ad X 4 (sQ below args s 0 0 D cy ad (.inr (some (.int r))) X σ') σ 45 [(0, .ref (ad 44)), (1, .int v1), (2, .int v2), (3, .int v3)] [.int vs1, .ref (ad 44)] := by
  replace hf : (wthn (f_X5_refused vs1 σ) (fun vr8 σ8 => if vr8 = 0 then (chk (inb v1 3) (rthn (f_X5_nearAt v1 (0 : Int32) (σ8 47 (v1).toNatClampNeg) v2 v3 σ8) (fun vr11 => chk (inb (((60 : Int32) * v1) + vr11) 180) (some ((σ8 45 ((((60 : Int32) * v1) + vr11)).toNatClampNeg), σ8))))) else (some ((0 : Int32), σ8)))) = some (r, σ') := hf
  intro H locs ls h hl
  have hx := B.1
  have hb := B.2.1
  obtain ⟨vr8, σ8, hq8, hf⟩ := wthn_some hf
  refine sRetC1 (g_runV (k := 44) (T := TX5) (N := 21) B h (ok_X5_refused B.2.2.2.2.2.2.2.2 B.2.2.2.2.2.2.1 _ _ vs1 hq8) cw_X5_95 ⟨Nat.le_of_ble_eq_true rfl, Nat.le_of_ble_eq_true rfl⟩ (by decide) (M_row _) rfl rfl hl.1.symm rfl (Nat.le_of_ble_eq_true rfl) dX5_near_45 ⟨Nat.zero_le _, Nat.zero_le _⟩) h (fun H locs h => ?_)
  refine lv_if_eq (tgt := 53) hx hb dX5_near_48 (by decide) (fun c9 => ?_) (fun c9 => ?_)
  · rw [if_pos c9] at hf
    refine lv_aload_n hx hb dX5_near_53 rfl (lv_at hl 0 rfl) ?_
    refine g_get B h 44 (by decide) (C := RX5) (T := TX5) (N := 21) (M_row _) rfl hin_X5 0 (by decide) hw829 rfl rfl dX5_near_54 ?_
    refine lv_bipush (v := (60 : Int32)) hx hb dX5_near_57 (by decide) ?_
    refine lv_iload_n hx hb dX5_near_59 rfl (lv_at hl 1 rfl) ?_
    refine lv_imul hx hb dX5_near_60 ?_
    refine lv_aload_n hx hb dX5_near_61 rfl (lv_at hl 0 rfl) ?_
    refine lv_iload_n hx hb dX5_near_62 rfl (lv_at hl 1 rfl) ?_
    refine lv_iconst (v := (0 : Int32)) hx hb dX5_near_63 (by decide) ?_
    refine lv_aload_n hx hb dX5_near_64 rfl (lv_at hl 0 rfl) ?_
    refine g_get B h 44 (by decide) (C := RX5) (T := TX5) (N := 21) (M_row _) rfl hin_X5 2 (by decide) hw831 rfl rfl dX5_near_65 ?_
    refine lv_iload_n hx hb dX5_near_68 rfl (lv_at hl 1 rfl) ?_
    obtain ⟨c10, hf⟩ := chk_some hf
    refine g_iald B h 47 (by decide) (n := 3) (fun _ => rfl) (inb_in c10) dX5_near_69 ?_
    refine lv_iload_n hx hb dX5_near_70 rfl (lv_at hl 2 rfl) ?_
    refine lv_iload_n hx hb dX5_near_71 rfl (lv_at hl 3 rfl) ?_
    obtain ⟨vr11, hq11, hf⟩ := rthn_some hf
    refine sRetC1 (g_runV (k := 44) (T := TX5) (N := 21) B h (ok_X5_nearAt B.2.2.2.2.2.2.2.2 B.2.2.2.2.2.2.1 _ _ v1 (0 : Int32) (σ8 47 (v1).toNatClampNeg) v2 v3 hq11) cw_X5_106 ⟨Nat.le_of_ble_eq_true rfl, Nat.le_of_ble_eq_true rfl⟩ (by decide) (M_row _) rfl rfl hl.1.symm rfl (Nat.le_of_ble_eq_true rfl) dX5_near_72 ⟨Nat.zero_le _, Nat.zero_le _⟩) h (fun H locs h => ?_)
    refine lv_iadd hx hb dX5_near_75 ?_
    obtain ⟨c12, hf⟩ := chk_some hf
    refine g_iald B h 45 (by decide) (n := 180) (fun _ => rfl) (inb_in c12) dX5_near_76 ?_
    cases hf
    exact sE_i B hr h dX5_near_77
  · rw [if_neg c9] at hf
    refine lv_iconst (v := (0 : Int32)) hx hb dX5_near_51 (by decide) ?_
    cases hf
    exact sE_i B hr h dX5_near_52
set_option maxHeartbeats 4000000 in
set_option maxRecDepth 100000 in
theorem k_X5_near_0 {p : Program} {l : Launch} {e : Env} {s : State} {m : MethodId} {args : Array Value} {below : List Frame} {meth : Method} {c : Code} {D : va_G} {cy : Nat → ClassId} {ad : Nat → Nat} {X : sX} {r : Int32} {σ' : sM} (B : sB p l s m meth c args cX5_near 4 RX5 D cy ad) (hr : meth.sig.returnType = (some .int)) (v1 : Int32) (v2 : Int32) (v3 : Int32) (σ : sM) (hf : f_X5_near v1 v2 v3 σ = some (r, σ')) : sGo p l e { frames := 2, cells := 0, slots := 0, locals := 50 } s m args below meth c D cy ad X 4 (sQ below args s 0 0 D cy ad (.inr (some (.int r))) X σ') σ 0 [(0, .ref (ad 44)), (1, .int v1), (2, .int v2), (3, .int v3)] [] := by
  replace hf : (rthn (f_X5_isMap v1 σ) (fun vr1 => if vr1 = 0 then (b_X5_near_45 v1 v2 v3 (1 : Int32) σ) else (rthn (f_X5_isWay v3 σ) (fun vr3 => if vr3 = 0 then (b_X5_near_45 v1 v2 v3 (2 : Int32) σ) else (chk (inb v1 3) (rthn (f_X5_nearAt v1 (0 : Int32) (σ 47 (v1).toNatClampNeg) v2 v3 σ) (fun vr6 => if 0 ≤ vr6 then (b_X5_near_45 v1 v2 v3 (0 : Int32) σ) else (b_X5_near_45 v1 v2 v3 (3 : Int32) σ)))))))) = some (r, σ') := hf
  intro H locs ls h hl
  have hx := B.1
  have hb := B.2.1
  refine lv_aload_n hx hb dX5_near_0 rfl (lv_at hl 0 rfl) ?_
  refine lv_iload_n hx hb dX5_near_1 rfl (lv_at hl 1 rfl) ?_
  obtain ⟨vr1, hq1, hf⟩ := rthn_some hf
  refine sRetC1 (g_runS B h (ok_X5_isMap B.2.2.2.2.2.2.2.2 B.2.2.2.2.2.2.1 _ _ v1 hq1) cw_X5_87 ⟨Nat.le_of_ble_eq_true rfl, Nat.le_of_ble_eq_true rfl⟩ rfl hl.1.symm rfl (Nat.le_of_ble_eq_true rfl) dX5_near_2 ⟨Nat.zero_le _, Nat.zero_le _⟩) h (fun H locs h => ?_)
  refine lv_if_ne (tgt := 12) hx hb dX5_near_5 (by decide) (fun c2 => ?_) (fun c2 => ?_)
  · rw [if_neg c2] at hf
    refine lv_iload_n hx hb dX5_near_12 rfl (lv_at hl 3 rfl) ?_
    obtain ⟨vr3, hq3, hf⟩ := rthn_some hf
    refine sRetC1 (g_runS B h (ok_X5_isWay B.2.2.2.2.2.2.2.2 B.2.2.2.2.2.2.1 _ _ v3 hq3) cw_X5_102 ⟨Nat.le_of_ble_eq_true rfl, Nat.le_of_ble_eq_true rfl⟩ rfl hl.1.symm rfl (Nat.le_of_ble_eq_true rfl) dX5_near_13 ⟨Nat.zero_le _, Nat.zero_le _⟩) h (fun H locs h => ?_)
    refine lv_if_ne (tgt := 23) hx hb dX5_near_16 (by decide) (fun c4 => ?_) (fun c4 => ?_)
    · rw [if_neg c4] at hf
      refine lv_aload_n hx hb dX5_near_23 rfl (lv_at hl 0 rfl) ?_
      refine lv_iload_n hx hb dX5_near_24 rfl (lv_at hl 1 rfl) ?_
      refine lv_iconst (v := (0 : Int32)) hx hb dX5_near_25 (by decide) ?_
      refine lv_aload_n hx hb dX5_near_26 rfl (lv_at hl 0 rfl) ?_
      refine g_get B h 44 (by decide) (C := RX5) (T := TX5) (N := 21) (M_row _) rfl hin_X5 2 (by decide) hw831 rfl rfl dX5_near_27 ?_
      refine lv_iload_n hx hb dX5_near_30 rfl (lv_at hl 1 rfl) ?_
      obtain ⟨c5, hf⟩ := chk_some hf
      refine g_iald B h 47 (by decide) (n := 3) (fun _ => rfl) (inb_in c5) dX5_near_31 ?_
      refine lv_iload_n hx hb dX5_near_32 rfl (lv_at hl 2 rfl) ?_
      refine lv_iload_n hx hb dX5_near_33 rfl (lv_at hl 3 rfl) ?_
      obtain ⟨vr6, hq6, hf⟩ := rthn_some hf
      refine sRetC1 (g_runV (k := 44) (T := TX5) (N := 21) B h (ok_X5_nearAt B.2.2.2.2.2.2.2.2 B.2.2.2.2.2.2.1 _ _ v1 (0 : Int32) (σ 47 (v1).toNatClampNeg) v2 v3 hq6) cw_X5_106 ⟨Nat.le_of_ble_eq_true rfl, Nat.le_of_ble_eq_true rfl⟩ (by decide) (M_row _) rfl rfl hl.1.symm rfl (Nat.le_of_ble_eq_true rfl) dX5_near_34 ⟨Nat.zero_le _, Nat.zero_le _⟩) h (fun H locs h => ?_)
      refine lv_if_ge (tgt := 44) hx hb dX5_near_37 (by decide) (fun c7 => ?_) (fun c7 => ?_)
      · rw [if_pos c7] at hf
        refine lv_iconst (v := (0 : Int32)) hx hb dX5_near_44 (by decide) ?_
        exact k_X5_near_45 B hr  _ _ _ _ _ hf _ _ _ h (lv_sub hl [0, 1, 2, 3] rfl)
      · rw [if_neg c7] at hf
        refine lv_iconst (v := (3 : Int32)) hx hb dX5_near_40 (by decide) ?_
        refine lv_goto (tgt := 45) hx hb dX5_near_41 (by decide) ?_
        exact k_X5_near_45 B hr  _ _ _ _ _ hf _ _ _ h (lv_sub hl [0, 1, 2, 3] rfl)
    · rw [if_pos c4] at hf
      refine lv_iconst (v := (2 : Int32)) hx hb dX5_near_19 (by decide) ?_
      refine lv_goto (tgt := 45) hx hb dX5_near_20 (by decide) ?_
      exact k_X5_near_45 B hr  _ _ _ _ _ hf _ _ _ h (lv_sub hl [0, 1, 2, 3] rfl)
  · rw [if_pos c2] at hf
    refine lv_iconst (v := (1 : Int32)) hx hb dX5_near_8 (by decide) ?_
    refine lv_goto (tgt := 45) hx hb dX5_near_9 (by decide) ?_
    exact k_X5_near_45 B hr  _ _ _ _ _ hf _ _ _ h (lv_sub hl [0, 1, 2, 3] rfl)
set_option maxRecDepth 100000 in
theorem ok_X5_near {l : Launch} (hl0 : l.stackTraces = false) {D : va_G} {cy : Nat → ClassId} {ad : Nat → Nat} (hap : sAp ad) (X : sX) (σ : sM) (v1 : Int32) (v2 : Int32) (v3 : Int32) {r : Int32} {σ' : sM} (hf : f_X5_near v1 v2 v3 σ = some (r, σ')) : sMet l yX5_near (sWs yX5_near cX5_near 4 (some .int)) 2 50 0 0 D cy ad X σ [.ref (ad 44), .int v1, .int v2, .int v3] (.inr (some (.int r))) X σ' := by
  refine sMet_of (by decide +kernel) (Nat.le_of_ble_eq_true rfl) hap hl0 ?_
  intro p e s m args below meth c ls B hr htab hl h
  exact k_X5_near_0 B hr _ _ _ _  hf _ _ _ h hl
set_option maxHeartbeats 4000000 in
set_option maxRecDepth 100000 in
theorem k_X5_open_30 {p : Program} {l : Launch} {e : Env} {s : State} {m : MethodId} {args : Array Value} {below : List Frame} {meth : Method} {c : Code} {D : va_G} {cy : Nat → ClassId} {ad : Nat → Nat} {X : sX} {r : Int32} {σ' : sM} (B : sB p l s m meth c args cX5_open 7 RX5 D cy ad) (hr : meth.sig.returnType = (some .int)) (v1 : Int32) (v2 : Int32) (v3 : Int32) (v4 : Int32) (v5 : Int32) (v6 : Int32) (vs1 : Int32) (σ : sM) (hf : b_X5_open_30 v1 v2 v3 v4 v5 v6 vs1 σ = some (r, σ')) : sGo p l e { frames := 3, cells := 0, slots := 0, locals := 68 } s m args below meth c D cy ad X 7 (sQ below args s 0 0 D cy ad (.inr (some (.int r))) X σ') σ 30 [(0, .ref (ad 44)), (1, .int v1), (2, .int v2), (3, .int v3), (4, .int v4), (5, .int v5), (6, .int v6)] [.int vs1, .ref (ad 44)] := by
  replace hf : (wthn (f_X5_refused vs1 σ) (fun vr6 σ6 => if vr6 = 0 then (chk (inb v1 4) (stl (va_up σ6 48 (upd (σ6 48) (v1).toNatClampNeg (vp_nar .boolean (1 : Int32)))) (fun σ9 => chk (inb v1 4) (stl (va_up σ9 49 (upd (σ9 49) (v1).toNatClampNeg v2)) (fun σ11 => chk (inb v1 4) (stl (va_up σ11 50 (upd (σ11 50) (v1).toNatClampNeg v3)) (fun σ13 => chk (inb v1 4) (stl (va_up σ13 52 (upd (σ13 52) (v1).toNatClampNeg (vp_nar .boolean v4))) (fun σ15 => chk (inb v1 4) (stl (va_up σ15 51 (upd (σ15 51) (v1).toNatClampNeg v5)) (fun σ17 => chk (inb v1 4) (stl (va_up σ17 53 (upd (σ17 53) (v1).toNatClampNeg (vp_nar .boolean v6))) (fun σ19 => chk (inb v1 4) (stl (va_up σ19 54 (upd (σ19 54) (v1).toNatClampNeg (0 : Int32))) (fun σ21 => rthn (f_X5_manyOf v1 σ21) (fun vr22 => some (vr22, σ21))))))))))))))))) else (some ((0 : Int32), σ6)))) = some (r, σ') := hf
  intro H locs ls h hl
  have hx := B.1
  have hb := B.2.1
  obtain ⟨vr6, σ6, hq6, hf⟩ := wthn_some hf
  refine sRetC1 (g_runV (k := 44) (T := TX5) (N := 21) B h (ok_X5_refused B.2.2.2.2.2.2.2.2 B.2.2.2.2.2.2.1 _ _ vs1 hq6) cw_X5_95 ⟨Nat.le_of_ble_eq_true rfl, Nat.le_of_ble_eq_true rfl⟩ (by decide) (M_row _) rfl rfl hl.1.symm rfl (Nat.le_of_ble_eq_true rfl) dX5_open_30 ⟨Nat.zero_le _, Nat.zero_le _⟩) h (fun H locs h => ?_)
  refine lv_if_eq (tgt := 38) hx hb dX5_open_33 (by decide) (fun c7 => ?_) (fun c7 => ?_)
  · rw [if_pos c7] at hf
    refine lv_aload_n hx hb dX5_open_38 rfl (lv_at hl 0 rfl) ?_
    refine g_get B h 44 (by decide) (C := RX5) (T := TX5) (N := 21) (M_row _) rfl hin_X5 3 (by decide) hw832 rfl rfl dX5_open_39 ?_
    refine lv_iload_n hx hb dX5_open_42 rfl (lv_at hl 1 rfl) ?_
    refine lv_iconst (v := (1 : Int32)) hx hb dX5_open_43 (by decide) ?_
    obtain ⟨c8, hf⟩ := chk_some hf
    refine g_zast B h 48 (by decide) (n := 4) (fun _ => rfl) (inb_in c8) dX5_open_44 (fun H locs h => ?_)
    obtain ⟨σ9, e9, hf⟩ := stl_some hf
    rw [← e9] at h
    refine lv_aload_n hx hb dX5_open_45 rfl (lv_at hl 0 rfl) ?_
    refine g_get B h 44 (by decide) (C := RX5) (T := TX5) (N := 21) (M_row _) rfl hin_X5 4 (by decide) hw833 rfl rfl dX5_open_46 ?_
    refine lv_iload_n hx hb dX5_open_49 rfl (lv_at hl 1 rfl) ?_
    refine lv_iload_n hx hb dX5_open_50 rfl (lv_at hl 2 rfl) ?_
    obtain ⟨c10, hf⟩ := chk_some hf
    refine g_iast B h 49 (by decide) (n := 4) (fun _ => rfl) (inb_in c10) dX5_open_51 (fun H locs h => ?_)
    obtain ⟨σ11, e11, hf⟩ := stl_some hf
    rw [← e11] at h
    refine lv_aload_n hx hb dX5_open_52 rfl (lv_at hl 0 rfl) ?_
    refine g_get B h 44 (by decide) (C := RX5) (T := TX5) (N := 21) (M_row _) rfl hin_X5 5 (by decide) hw834 rfl rfl dX5_open_53 ?_
    refine lv_iload_n hx hb dX5_open_56 rfl (lv_at hl 1 rfl) ?_
    refine lv_iload_n hx hb dX5_open_57 rfl (lv_at hl 3 rfl) ?_
    obtain ⟨c12, hf⟩ := chk_some hf
    refine g_iast B h 50 (by decide) (n := 4) (fun _ => rfl) (inb_in c12) dX5_open_58 (fun H locs h => ?_)
    obtain ⟨σ13, e13, hf⟩ := stl_some hf
    rw [← e13] at h
    refine lv_aload_n hx hb dX5_open_59 rfl (lv_at hl 0 rfl) ?_
    refine g_get B h 44 (by decide) (C := RX5) (T := TX5) (N := 21) (M_row _) rfl hin_X5 7 (by decide) hw836 rfl rfl dX5_open_60 ?_
    refine lv_iload_n hx hb dX5_open_63 rfl (lv_at hl 1 rfl) ?_
    refine lv_iload hx hb dX5_open_64 (lv_at hl 4 rfl) ?_
    obtain ⟨c14, hf⟩ := chk_some hf
    refine g_zast B h 52 (by decide) (n := 4) (fun _ => rfl) (inb_in c14) dX5_open_66 (fun H locs h => ?_)
    obtain ⟨σ15, e15, hf⟩ := stl_some hf
    rw [← e15] at h
    refine lv_aload_n hx hb dX5_open_67 rfl (lv_at hl 0 rfl) ?_
    refine g_get B h 44 (by decide) (C := RX5) (T := TX5) (N := 21) (M_row _) rfl hin_X5 6 (by decide) hw835 rfl rfl dX5_open_68 ?_
    refine lv_iload_n hx hb dX5_open_71 rfl (lv_at hl 1 rfl) ?_
    refine lv_iload hx hb dX5_open_72 (lv_at hl 5 rfl) ?_
    obtain ⟨c16, hf⟩ := chk_some hf
    refine g_iast B h 51 (by decide) (n := 4) (fun _ => rfl) (inb_in c16) dX5_open_74 (fun H locs h => ?_)
    obtain ⟨σ17, e17, hf⟩ := stl_some hf
    rw [← e17] at h
    refine lv_aload_n hx hb dX5_open_75 rfl (lv_at hl 0 rfl) ?_
    refine g_get B h 44 (by decide) (C := RX5) (T := TX5) (N := 21) (M_row _) rfl hin_X5 8 (by decide) hw837 rfl rfl dX5_open_76 ?_
    refine lv_iload_n hx hb dX5_open_79 rfl (lv_at hl 1 rfl) ?_
    refine lv_iload hx hb dX5_open_80 (lv_at hl 6 rfl) ?_
    obtain ⟨c18, hf⟩ := chk_some hf
    refine g_zast B h 53 (by decide) (n := 4) (fun _ => rfl) (inb_in c18) dX5_open_82 (fun H locs h => ?_)
    obtain ⟨σ19, e19, hf⟩ := stl_some hf
    rw [← e19] at h
    refine lv_aload_n hx hb dX5_open_83 rfl (lv_at hl 0 rfl) ?_
    refine g_get B h 44 (by decide) (C := RX5) (T := TX5) (N := 21) (M_row _) rfl hin_X5 9 (by decide) hw838 rfl rfl dX5_open_84 ?_
    refine lv_iload_n hx hb dX5_open_87 rfl (lv_at hl 1 rfl) ?_
    refine lv_iconst (v := (0 : Int32)) hx hb dX5_open_88 (by decide) ?_
    obtain ⟨c20, hf⟩ := chk_some hf
    refine g_iast B h 54 (by decide) (n := 4) (fun _ => rfl) (inb_in c20) dX5_open_89 (fun H locs h => ?_)
    obtain ⟨σ21, e21, hf⟩ := stl_some hf
    rw [← e21] at h
    refine lv_aload_n hx hb dX5_open_90 rfl (lv_at hl 0 rfl) ?_
    refine lv_iload_n hx hb dX5_open_91 rfl (lv_at hl 1 rfl) ?_
    obtain ⟨vr22, hq22, hf⟩ := rthn_some hf
    refine sRetC1 (g_runV (k := 44) (T := TX5) (N := 21) B h (ok_X5_manyOf B.2.2.2.2.2.2.2.2 B.2.2.2.2.2.2.1 _ _ v1 hq22) cw_X5_129 ⟨Nat.le_of_ble_eq_true rfl, Nat.le_of_ble_eq_true rfl⟩ (by decide) (M_row _) rfl rfl hl.1.symm rfl (Nat.le_of_ble_eq_true rfl) dX5_open_92 ⟨Nat.zero_le _, Nat.zero_le _⟩) h (fun H locs h => ?_)
    cases hf
    exact sE_i B hr h dX5_open_95
  · rw [if_neg c7] at hf
    refine lv_iconst (v := (0 : Int32)) hx hb dX5_open_36 (by decide) ?_
    cases hf
    exact sE_i B hr h dX5_open_37
set_option maxHeartbeats 4000000 in
set_option maxRecDepth 100000 in
theorem k_X5_open_0 {p : Program} {l : Launch} {e : Env} {s : State} {m : MethodId} {args : Array Value} {below : List Frame} {meth : Method} {c : Code} {D : va_G} {cy : Nat → ClassId} {ad : Nat → Nat} {X : sX} {r : Int32} {σ' : sM} (B : sB p l s m meth c args cX5_open 7 RX5 D cy ad) (hr : meth.sig.returnType = (some .int)) (v1 : Int32) (v2 : Int32) (v3 : Int32) (v4 : Int32) (v5 : Int32) (v6 : Int32) (σ : sM) (hf : f_X5_open v1 v2 v3 v4 v5 v6 σ = some (r, σ')) : sGo p l e { frames := 3, cells := 0, slots := 0, locals := 68 } s m args below meth c D cy ad X 7 (sQ below args s 0 0 D cy ad (.inr (some (.int r))) X σ') σ 0 [(0, .ref (ad 44)), (1, .int v1), (2, .int v2), (3, .int v3), (4, .int v4), (5, .int v5), (6, .int v6)] [] := by
  replace hf : (rthn (f_X5_isView v1 σ) (fun vr1 => if vr1 = 0 then (b_X5_open_30 v1 v2 v3 v4 v5 v6 (1 : Int32) σ) else (rthn (f_X5_isMap v2 σ) (fun vr3 => if vr3 = 0 then (b_X5_open_30 v1 v2 v3 v4 v5 v6 (1 : Int32) σ) else (if v3 ≤ v5 then (b_X5_open_30 v1 v2 v3 v4 v5 v6 (0 : Int32) σ) else (b_X5_open_30 v1 v2 v3 v4 v5 v6 (2 : Int32) σ)))))) = some (r, σ') := hf
  intro H locs ls h hl
  have hx := B.1
  have hb := B.2.1
  refine lv_aload_n hx hb dX5_open_0 rfl (lv_at hl 0 rfl) ?_
  refine lv_iload_n hx hb dX5_open_1 rfl (lv_at hl 1 rfl) ?_
  obtain ⟨vr1, hq1, hf⟩ := rthn_some hf
  refine sRetC1 (g_runS B h (ok_X5_isView B.2.2.2.2.2.2.2.2 B.2.2.2.2.2.2.1 _ _ v1 hq1) cw_X5_126 ⟨Nat.le_of_ble_eq_true rfl, Nat.le_of_ble_eq_true rfl⟩ rfl hl.1.symm rfl (Nat.le_of_ble_eq_true rfl) dX5_open_2 ⟨Nat.zero_le _, Nat.zero_le _⟩) h (fun H locs h => ?_)
  refine lv_if_eq (tgt := 15) hx hb dX5_open_5 (by decide) (fun c2 => ?_) (fun c2 => ?_)
  · rw [if_pos c2] at hf
    refine lv_iconst (v := (1 : Int32)) hx hb dX5_open_15 (by decide) ?_
    refine lv_goto (tgt := 30) hx hb dX5_open_16 (by decide) ?_
    exact k_X5_open_30 B hr  _ _ _ _ _ _ _ _ hf _ _ _ h (lv_sub hl [0, 1, 2, 3, 4, 5, 6] rfl)
  · rw [if_neg c2] at hf
    refine lv_iload_n hx hb dX5_open_8 rfl (lv_at hl 2 rfl) ?_
    obtain ⟨vr3, hq3, hf⟩ := rthn_some hf
    refine sRetC1 (g_runS B h (ok_X5_isMap B.2.2.2.2.2.2.2.2 B.2.2.2.2.2.2.1 _ _ v2 hq3) cw_X5_87 ⟨Nat.le_of_ble_eq_true rfl, Nat.le_of_ble_eq_true rfl⟩ rfl hl.1.symm rfl (Nat.le_of_ble_eq_true rfl) dX5_open_9 ⟨Nat.zero_le _, Nat.zero_le _⟩) h (fun H locs h => ?_)
    refine lv_if_ne (tgt := 19) hx hb dX5_open_12 (by decide) (fun c4 => ?_) (fun c4 => ?_)
    · rw [if_neg c4] at hf
      refine lv_iload hx hb dX5_open_19 (lv_at hl 5 rfl) ?_
      refine lv_iload_n hx hb dX5_open_21 rfl (lv_at hl 3 rfl) ?_
      refine lv_icmp_ge (tgt := 29) hx hb dX5_open_22 (by decide) (fun c5 => ?_) (fun c5 => ?_)
      · rw [if_pos c5] at hf
        refine lv_iconst (v := (0 : Int32)) hx hb dX5_open_29 (by decide) ?_
        exact k_X5_open_30 B hr  _ _ _ _ _ _ _ _ hf _ _ _ h (lv_sub hl [0, 1, 2, 3, 4, 5, 6] rfl)
      · rw [if_neg c5] at hf
        refine lv_iconst (v := (2 : Int32)) hx hb dX5_open_25 (by decide) ?_
        refine lv_goto (tgt := 30) hx hb dX5_open_26 (by decide) ?_
        exact k_X5_open_30 B hr  _ _ _ _ _ _ _ _ hf _ _ _ h (lv_sub hl [0, 1, 2, 3, 4, 5, 6] rfl)
    · rw [if_pos c4] at hf
      refine lv_iconst (v := (1 : Int32)) hx hb dX5_open_15 (by decide) ?_
      refine lv_goto (tgt := 30) hx hb dX5_open_16 (by decide) ?_
      exact k_X5_open_30 B hr  _ _ _ _ _ _ _ _ hf _ _ _ h (lv_sub hl [0, 1, 2, 3, 4, 5, 6] rfl)
set_option maxRecDepth 100000 in
theorem ok_X5_open {l : Launch} (hl0 : l.stackTraces = false) {D : va_G} {cy : Nat → ClassId} {ad : Nat → Nat} (hap : sAp ad) (X : sX) (σ : sM) (v1 : Int32) (v2 : Int32) (v3 : Int32) (v4 : Int32) (v5 : Int32) (v6 : Int32) {r : Int32} {σ' : sM} (hf : f_X5_open v1 v2 v3 v4 v5 v6 σ = some (r, σ')) : sMet l yX5_open (sWs yX5_open cX5_open 7 (some .int)) 3 68 0 0 D cy ad X σ [.ref (ad 44), .int v1, .int v2, .int v3, .int v4, .int v5, .int v6] (.inr (some (.int r))) X σ' := by
  refine sMet_of (by decide +kernel) (Nat.le_of_ble_eq_true rfl) hap hl0 ?_
  intro p e s m args below meth c ls B hr htab hl h
  exact k_X5_open_0 B hr _ _ _ _ _ _ _  hf _ _ _ h hl
set_option maxHeartbeats 4000000 in
set_option maxRecDepth 100000 in
theorem k_X5_opposite_93 {p : Program} {l : Launch} {e : Env} {s : State} {m : MethodId} {args : Array Value} {below : List Frame} {meth : Method} {c : Code} {D : va_G} {cy : Nat → ClassId} {ad : Nat → Nat} {X : sX} {r : Int32} {σ' : sM} (B : sB p l s m meth c args cX5_opposite 6 RX5 D cy ad) (hr : meth.sig.returnType = (some .int)) {K56 : Int32 → Int32 → Int32 → sM → Option (Int32 × sM)} (hK56 : ∀ (v2 : Int32) (v3 : Int32) (v4 : Int32) (σ : sM), K56 v2 v3 v4 σ = some (r, σ') → sGo p l e { frames := 3, cells := 0, slots := 0, locals := 72 } s m args below meth c D cy ad X 6 (sQ below args s 0 0 D cy ad (.inr (some (.int r))) X σ') σ 56 [(0, .ref (ad 44)), (2, .int v2), (3, .int v3), (4, .int v4)] []) (v2 : Int32) (v3 : Int32) (v4 : Int32) (v5 : Int32) (vs1 : Int32) (vs2 : Int32) (σ : sM) (hf : b_X5_opposite_93 K56 v2 v3 v4 v5 vs1 vs2 σ = some (r, σ')) : sGo p l e { frames := 3, cells := 0, slots := 0, locals := 72 } s m args below meth c D cy ad X 6 (sQ below args s 0 0 D cy ad (.inr (some (.int r))) X σ') σ 93 [(0, .ref (ad 44)), (2, .int v2), (3, .int v3), (4, .int v4), (5, .int v5)] [.int vs2, .int vs1, .ref (ad 44)] := by
  replace hf : (chk (inb v4 60) (if 0 ≤ v5 then (chk (inb (((60 : Int32) * v2) + v5) 180) (wthn (f_X5_adds vs1 vs2 (σ 59 (v4).toNatClampNeg) (σ 46 ((((60 : Int32) * v2) + v5)).toNatClampNeg) σ) (fun _ σ21 => K56 v2 v3 (v4 + 1) σ21))) else (wthn (f_X5_adds vs1 vs2 (σ 59 (v4).toNatClampNeg) (0 : Int32) σ) (fun _ σ22 => K56 v2 v3 (v4 + 1) σ22)))) = some (r, σ') := hf
  intro H locs ls h hl
  have hx := B.1
  have hb := B.2.1
  refine lv_aload_n hx hb dX5_opposite_93 rfl (lv_at hl 0 rfl) ?_
  refine g_get B h 44 (by decide) (C := RX5) (T := TX5) (N := 21) (M_row _) rfl hin_X5 14 (by decide) hw843 rfl rfl dX5_opposite_94 ?_
  refine lv_iload hx hb dX5_opposite_97 (lv_at hl 3 rfl) ?_
  obtain ⟨c18, hf⟩ := chk_some hf
  refine g_iald B h 59 (by decide) (n := 60) (fun _ => rfl) (inb_in c18) dX5_opposite_99 ?_
  refine lv_iload hx hb dX5_opposite_100 (lv_at hl 4 rfl) ?_
  refine lv_if_ge (tgt := 109) hx hb dX5_opposite_102 (by decide) (fun c19 => ?_) (fun c19 => ?_)
  · rw [if_pos c19] at hf
    refine lv_aload_n hx hb dX5_opposite_109 rfl (lv_at hl 0 rfl) ?_
    refine g_get B h 44 (by decide) (C := RX5) (T := TX5) (N := 21) (M_row _) rfl hin_X5 1 (by decide) hw830 rfl rfl dX5_opposite_110 ?_
    refine lv_bipush (v := (60 : Int32)) hx hb dX5_opposite_113 (by decide) ?_
    refine lv_iload_n hx hb dX5_opposite_115 rfl (lv_at hl 1 rfl) ?_
    refine lv_imul hx hb dX5_opposite_116 ?_
    refine lv_iload hx hb dX5_opposite_117 (lv_at hl 4 rfl) ?_
    refine lv_iadd hx hb dX5_opposite_119 ?_
    obtain ⟨c20, hf⟩ := chk_some hf
    refine g_iald B h 46 (by decide) (n := 180) (fun _ => rfl) (inb_in c20) dX5_opposite_120 ?_
    obtain ⟨vr21, σ21, hq21, hf⟩ := wthn_some hf
    refine sRetC0 (g_runV (k := 44) (T := TX5) (N := 21) B h (ok_X5_adds B.2.2.2.2.2.2.2.2 B.2.2.2.2.2.2.1 _ _ vs1 vs2 (σ 59 (v4).toNatClampNeg) (σ 46 ((((60 : Int32) * v2) + v5)).toNatClampNeg) hq21) cw_X5_139 ⟨Nat.le_of_ble_eq_true rfl, Nat.le_of_ble_eq_true rfl⟩ (by decide) (M_row _) rfl rfl hl.1.symm rfl (Nat.le_of_ble_eq_true rfl) dX5_opposite_121 ⟨Nat.zero_le _, Nat.zero_le _⟩) h (fun H locs h => ?_)
    refine lv_iinc (v := (v4 + 1)) (lv' := [(4, .int (v4 + 1)), (0, .ref (ad 44)), (2, .int v2), (3, .int v3), (5, .int v5)]) hx hb dX5_opposite_124 hl (k := 3) rfl rfl (by decide) rfl (fun ls hl => ?_)
    refine lv_goto (tgt := 56) hx hb dX5_opposite_127 (by decide) ?_
    exact hK56 _ _ _ _ hf _ _ _ h (lv_sub hl [1, 2, 3, 0] rfl)
  · rw [if_neg c19] at hf
    refine lv_iconst (v := (0 : Int32)) hx hb dX5_opposite_105 (by decide) ?_
    refine lv_goto (tgt := 121) hx hb dX5_opposite_106 (by decide) ?_
    obtain ⟨vr22, σ22, hq22, hf⟩ := wthn_some hf
    refine sRetC0 (g_runV (k := 44) (T := TX5) (N := 21) B h (ok_X5_adds B.2.2.2.2.2.2.2.2 B.2.2.2.2.2.2.1 _ _ vs1 vs2 (σ 59 (v4).toNatClampNeg) (0 : Int32) hq22) cw_X5_139 ⟨Nat.le_of_ble_eq_true rfl, Nat.le_of_ble_eq_true rfl⟩ (by decide) (M_row _) rfl rfl hl.1.symm rfl (Nat.le_of_ble_eq_true rfl) dX5_opposite_121 ⟨Nat.zero_le _, Nat.zero_le _⟩) h (fun H locs h => ?_)
    refine lv_iinc (v := (v4 + 1)) (lv' := [(4, .int (v4 + 1)), (0, .ref (ad 44)), (2, .int v2), (3, .int v3), (5, .int v5)]) hx hb dX5_opposite_124 hl (k := 3) rfl rfl (by decide) rfl (fun ls hl => ?_)
    refine lv_goto (tgt := 56) hx hb dX5_opposite_127 (by decide) ?_
    exact hK56 _ _ _ _ hf _ _ _ h (lv_sub hl [1, 2, 3, 0] rfl)
set_option maxHeartbeats 4000000 in
set_option maxRecDepth 100000 in
theorem k_X5_opposite_56 {p : Program} {l : Launch} {e : Env} {s : State} {m : MethodId} {args : Array Value} {below : List Frame} {meth : Method} {c : Code} {D : va_G} {cy : Nat → ClassId} {ad : Nat → Nat} {X : sX} {r : Int32} {σ' : sM} (B : sB p l s m meth c args cX5_opposite 6 RX5 D cy ad) (hr : meth.sig.returnType = (some .int)) : ∀ (n : Nat) (v2 : Int32) (v3 : Int32) (v4 : Int32) (σ : sM), b_X5_opposite_56 n v2 v3 v4 σ = some (r, σ') → sGo p l e { frames := 3, cells := 0, slots := 0, locals := 72 } s m args below meth c D cy ad X 6 (sQ below args s 0 0 D cy ad (.inr (some (.int r))) X σ') σ 56 [(0, .ref (ad 44)), (2, .int v2), (3, .int v3), (4, .int v4)] [] := by
  intro n
  induction n with
  | zero =>
    intro v2 v3 v4 σ hf
    exact nomatch (show none = some (r, σ') from hf)
  | succ n ih =>
    intro v2 v3 v4 σ hf
    replace hf : (if (σ 44 15) ≤ v4 then (chk (inb v3 3) (some ((σ 58 (v3).toNatClampNeg), σ))) else (chk (inb v4 60) (rthn (f_X5_placeOf v2 (σ 59 (v4).toNatClampNeg) σ) (fun vr16 => if 0 ≤ vr16 then (b_X5_opposite_93 (b_X5_opposite_56 n) v2 v3 v4 vr16 v3 (112 : Int32) σ) else (b_X5_opposite_93 (b_X5_opposite_56 n) v2 v3 v4 vr16 v3 (114 : Int32) σ))))) = some (r, σ') := hf
    intro H locs ls h hl
    have hx := B.1
    have hb := B.2.1
    refine lv_iload hx hb dX5_opposite_56 (lv_at hl 3 rfl) ?_
    refine lv_aload_n hx hb dX5_opposite_58 rfl (lv_at hl 0 rfl) ?_
    refine g_get B h 44 (by decide) (C := RX5) (T := TX5) (N := 21) (M_row _) rfl hin_X5 15 (by decide) hw844 rfl rfl dX5_opposite_59 ?_
    refine lv_icmp_ge (tgt := 130) hx hb dX5_opposite_62 (by decide) (fun c13 => ?_) (fun c13 => ?_)
    · rw [if_pos c13] at hf
      refine lv_aload_n hx hb dX5_opposite_130 rfl (lv_at hl 0 rfl) ?_
      refine g_get B h 44 (by decide) (C := RX5) (T := TX5) (N := 21) (M_row _) rfl hin_X5 13 (by decide) hw842 rfl rfl dX5_opposite_131 ?_
      refine lv_iload_n hx hb dX5_opposite_134 rfl (lv_at hl 2 rfl) ?_
      obtain ⟨c14, hf⟩ := chk_some hf
      refine g_iald B h 58 (by decide) (n := 3) (fun _ => rfl) (inb_in c14) dX5_opposite_135 ?_
      cases hf
      exact sE_i B hr h dX5_opposite_136
    · rw [if_neg c13] at hf
      refine lv_aload_n hx hb dX5_opposite_65 rfl (lv_at hl 0 rfl) ?_
      refine lv_iload_n hx hb dX5_opposite_66 rfl (lv_at hl 1 rfl) ?_
      refine lv_aload_n hx hb dX5_opposite_67 rfl (lv_at hl 0 rfl) ?_
      refine g_get B h 44 (by decide) (C := RX5) (T := TX5) (N := 21) (M_row _) rfl hin_X5 14 (by decide) hw843 rfl rfl dX5_opposite_68 ?_
      refine lv_iload hx hb dX5_opposite_71 (lv_at hl 3 rfl) ?_
      obtain ⟨c15, hf⟩ := chk_some hf
      refine g_iald B h 59 (by decide) (n := 60) (fun _ => rfl) (inb_in c15) dX5_opposite_73 ?_
      obtain ⟨vr16, hq16, hf⟩ := rthn_some hf
      refine sRetC1 (g_runV (k := 44) (T := TX5) (N := 21) B h (ok_X5_placeOf B.2.2.2.2.2.2.2.2 B.2.2.2.2.2.2.1 _ _ v2 (σ 59 (v4).toNatClampNeg) hq16) cw_X5_68 ⟨Nat.le_of_ble_eq_true rfl, Nat.le_of_ble_eq_true rfl⟩ (by decide) (M_row _) rfl rfl hl.1.symm rfl (Nat.le_of_ble_eq_true rfl) dX5_opposite_74 ⟨Nat.zero_le _, Nat.zero_le _⟩) h (fun H locs h => ?_)
      refine lv_istore (lv' := [(5, .int vr16), (0, .ref (ad 44)), (2, .int v2), (3, .int v3), (4, .int v4)]) hx hb dX5_opposite_77 hl (by decide) rfl (fun ls hl => ?_)
      refine lv_aload_n hx hb dX5_opposite_79 rfl (lv_at hl 1 rfl) ?_
      refine lv_iload_n hx hb dX5_opposite_80 rfl (lv_at hl 3 rfl) ?_
      refine lv_iload hx hb dX5_opposite_81 (lv_at hl 0 rfl) ?_
      refine lv_if_ge (tgt := 91) hx hb dX5_opposite_83 (by decide) (fun c17 => ?_) (fun c17 => ?_)
      · rw [if_pos c17] at hf
        refine lv_bipush (v := (112 : Int32)) hx hb dX5_opposite_91 (by decide) ?_
        exact k_X5_opposite_93 B hr ih _ _ _ _ _ _ _ hf _ _ _ h (lv_sub hl [1, 2, 3, 4, 0] rfl)
      · rw [if_neg c17] at hf
        refine lv_bipush (v := (114 : Int32)) hx hb dX5_opposite_86 (by decide) ?_
        refine lv_goto (tgt := 93) hx hb dX5_opposite_88 (by decide) ?_
        exact k_X5_opposite_93 B hr ih _ _ _ _ _ _ _ hf _ _ _ h (lv_sub hl [1, 2, 3, 4, 0] rfl)
set_option maxHeartbeats 4000000 in
set_option maxRecDepth 100000 in
theorem k_X5_opposite_27 {p : Program} {l : Launch} {e : Env} {s : State} {m : MethodId} {args : Array Value} {below : List Frame} {meth : Method} {c : Code} {D : va_G} {cy : Nat → ClassId} {ad : Nat → Nat} {X : sX} {r : Int32} {σ' : sM} (B : sB p l s m meth c args cX5_opposite 6 RX5 D cy ad) (hr : meth.sig.returnType = (some .int)) (v1 : Int32) (v2 : Int32) (v3 : Int32) (vs1 : Int32) (σ : sM) (hf : b_X5_opposite_27 v1 v2 v3 vs1 σ = some (r, σ')) : sGo p l e { frames := 3, cells := 0, slots := 0, locals := 72 } s m args below meth c D cy ad X 6 (sQ below args s 0 0 D cy ad (.inr (some (.int r))) X σ') σ 27 [(0, .ref (ad 44)), (1, .int v1), (2, .int v2), (3, .int v3)] [.int vs1, .ref (ad 44)] := by
  replace hf : (wthn (f_X5_refused vs1 σ) (fun vr7 σ7 => if vr7 = 0 then (stl (va_up σ7 44 (upd (σ7 44) 15 (0 : Int32))) (fun σ9 => wthn (f_X5_gathers v1 (-1 : Int32) σ9) (fun _ σ10 => chk (inb v3 3) (stl (va_up σ10 58 (upd (σ10 58) (v3).toNatClampNeg (0 : Int32))) (fun σ12 => b_X5_opposite_56 FU v2 v3 (0 : Int32) σ12))))) else (some ((0 : Int32), σ7)))) = some (r, σ') := hf
  intro H locs ls h hl
  have hx := B.1
  have hb := B.2.1
  obtain ⟨vr7, σ7, hq7, hf⟩ := wthn_some hf
  refine sRetC1 (g_runV (k := 44) (T := TX5) (N := 21) B h (ok_X5_refused B.2.2.2.2.2.2.2.2 B.2.2.2.2.2.2.1 _ _ vs1 hq7) cw_X5_95 ⟨Nat.le_of_ble_eq_true rfl, Nat.le_of_ble_eq_true rfl⟩ (by decide) (M_row _) rfl rfl hl.1.symm rfl (Nat.le_of_ble_eq_true rfl) dX5_opposite_27 ⟨Nat.zero_le _, Nat.zero_le _⟩) h (fun H locs h => ?_)
  refine lv_if_eq (tgt := 35) hx hb dX5_opposite_30 (by decide) (fun c8 => ?_) (fun c8 => ?_)
  · rw [if_pos c8] at hf
    refine lv_aload_n hx hb dX5_opposite_35 rfl (lv_at hl 0 rfl) ?_
    refine lv_iconst (v := (0 : Int32)) hx hb dX5_opposite_36 (by decide) ?_
    refine g_put B h 44 (by decide) (C := RX5) (T := TX5) (N := 21) (M_row _) rfl hin_X5 tyX5 tyX5_ok nmX5 15 (by decide) hw844 rfl rfl rfl rfl (upd (σ7 44) 15 (0 : Int32)) (M_put15 _ _) (Nat.le_of_ble_eq_true rfl) dX5_opposite_37 (fun H locs h => ?_)
    obtain ⟨σ9, e9, hf⟩ := stl_some hf
    rw [← e9] at h
    refine lv_aload_n hx hb dX5_opposite_40 rfl (lv_at hl 0 rfl) ?_
    refine lv_iload_n hx hb dX5_opposite_41 rfl (lv_at hl 1 rfl) ?_
    refine lv_iconst (v := (-1 : Int32)) hx hb dX5_opposite_42 (by decide) ?_
    obtain ⟨vr10, σ10, hq10, hf⟩ := wthn_some hf
    refine sRetC0 (g_runV (k := 44) (T := TX5) (N := 21) B h (ok_X5_gathers B.2.2.2.2.2.2.2.2 B.2.2.2.2.2.2.1 _ _ v1 (-1 : Int32) hq10) cw_X5_146 ⟨Nat.le_of_ble_eq_true rfl, Nat.le_of_ble_eq_true rfl⟩ (by decide) (M_row _) rfl rfl hl.1.symm rfl (Nat.le_of_ble_eq_true rfl) dX5_opposite_43 ⟨Nat.zero_le _, Nat.zero_le _⟩) h (fun H locs h => ?_)
    refine lv_aload_n hx hb dX5_opposite_46 rfl (lv_at hl 0 rfl) ?_
    refine g_get B h 44 (by decide) (C := RX5) (T := TX5) (N := 21) (M_row _) rfl hin_X5 13 (by decide) hw842 rfl rfl dX5_opposite_47 ?_
    refine lv_iload_n hx hb dX5_opposite_50 rfl (lv_at hl 3 rfl) ?_
    refine lv_iconst (v := (0 : Int32)) hx hb dX5_opposite_51 (by decide) ?_
    obtain ⟨c11, hf⟩ := chk_some hf
    refine g_iast B h 58 (by decide) (n := 3) (fun _ => rfl) (inb_in c11) dX5_opposite_52 (fun H locs h => ?_)
    obtain ⟨σ12, e12, hf⟩ := stl_some hf
    rw [← e12] at h
    refine lv_iconst (v := (0 : Int32)) hx hb dX5_opposite_53 (by decide) ?_
    refine lv_istore (lv' := [(4, .int (0 : Int32)), (0, .ref (ad 44)), (1, .int v1), (2, .int v2), (3, .int v3)]) hx hb dX5_opposite_54 hl (by decide) rfl (fun ls hl => ?_)
    exact k_X5_opposite_56 B hr  _ _ _ _ _ hf _ _ _ h (lv_sub hl [1, 3, 4, 0] rfl)
  · rw [if_neg c8] at hf
    refine lv_iconst (v := (0 : Int32)) hx hb dX5_opposite_33 (by decide) ?_
    cases hf
    exact sE_i B hr h dX5_opposite_34
set_option maxHeartbeats 4000000 in
set_option maxRecDepth 100000 in
theorem k_X5_opposite_0 {p : Program} {l : Launch} {e : Env} {s : State} {m : MethodId} {args : Array Value} {below : List Frame} {meth : Method} {c : Code} {D : va_G} {cy : Nat → ClassId} {ad : Nat → Nat} {X : sX} {r : Int32} {σ' : sM} (B : sB p l s m meth c args cX5_opposite 6 RX5 D cy ad) (hr : meth.sig.returnType = (some .int)) (v1 : Int32) (v2 : Int32) (v3 : Int32) (σ : sM) (hf : f_X5_opposite v1 v2 v3 σ = some (r, σ')) : sGo p l e { frames := 3, cells := 0, slots := 0, locals := 72 } s m args below meth c D cy ad X 6 (sQ below args s 0 0 D cy ad (.inr (some (.int r))) X σ') σ 0 [(0, .ref (ad 44)), (1, .int v1), (2, .int v2), (3, .int v3)] [] := by
  replace hf : (rthn (f_X5_isHistory v1 σ) (fun vr1 => if vr1 = 0 then (b_X5_opposite_27 v1 v2 v3 (1 : Int32) σ) else (rthn (f_X5_isMap v2 σ) (fun vr3 => if vr3 = 0 then (b_X5_opposite_27 v1 v2 v3 (1 : Int32) σ) else (rthn (f_X5_isHistory v3 σ) (fun vr5 => if vr5 = 0 then (b_X5_opposite_27 v1 v2 v3 (1 : Int32) σ) else (b_X5_opposite_27 v1 v2 v3 (0 : Int32) σ))))))) = some (r, σ') := hf
  intro H locs ls h hl
  have hx := B.1
  have hb := B.2.1
  refine lv_aload_n hx hb dX5_opposite_0 rfl (lv_at hl 0 rfl) ?_
  refine lv_iload_n hx hb dX5_opposite_1 rfl (lv_at hl 1 rfl) ?_
  obtain ⟨vr1, hq1, hf⟩ := rthn_some hf
  refine sRetC1 (g_runS B h (ok_X5_isHistory B.2.2.2.2.2.2.2.2 B.2.2.2.2.2.2.1 _ _ v1 hq1) cw_X5_136 ⟨Nat.le_of_ble_eq_true rfl, Nat.le_of_ble_eq_true rfl⟩ rfl hl.1.symm rfl (Nat.le_of_ble_eq_true rfl) dX5_opposite_2 ⟨Nat.zero_le _, Nat.zero_le _⟩) h (fun H locs h => ?_)
  refine lv_if_eq (tgt := 22) hx hb dX5_opposite_5 (by decide) (fun c2 => ?_) (fun c2 => ?_)
  · rw [if_pos c2] at hf
    refine lv_iconst (v := (1 : Int32)) hx hb dX5_opposite_22 (by decide) ?_
    refine lv_goto (tgt := 27) hx hb dX5_opposite_23 (by decide) ?_
    exact k_X5_opposite_27 B hr  _ _ _ _ _ hf _ _ _ h (lv_sub hl [0, 1, 2, 3] rfl)
  · rw [if_neg c2] at hf
    refine lv_iload_n hx hb dX5_opposite_8 rfl (lv_at hl 2 rfl) ?_
    obtain ⟨vr3, hq3, hf⟩ := rthn_some hf
    refine sRetC1 (g_runS B h (ok_X5_isMap B.2.2.2.2.2.2.2.2 B.2.2.2.2.2.2.1 _ _ v2 hq3) cw_X5_87 ⟨Nat.le_of_ble_eq_true rfl, Nat.le_of_ble_eq_true rfl⟩ rfl hl.1.symm rfl (Nat.le_of_ble_eq_true rfl) dX5_opposite_9 ⟨Nat.zero_le _, Nat.zero_le _⟩) h (fun H locs h => ?_)
    refine lv_if_eq (tgt := 22) hx hb dX5_opposite_12 (by decide) (fun c4 => ?_) (fun c4 => ?_)
    · rw [if_pos c4] at hf
      refine lv_iconst (v := (1 : Int32)) hx hb dX5_opposite_22 (by decide) ?_
      refine lv_goto (tgt := 27) hx hb dX5_opposite_23 (by decide) ?_
      exact k_X5_opposite_27 B hr  _ _ _ _ _ hf _ _ _ h (lv_sub hl [0, 1, 2, 3] rfl)
    · rw [if_neg c4] at hf
      refine lv_iload_n hx hb dX5_opposite_15 rfl (lv_at hl 3 rfl) ?_
      obtain ⟨vr5, hq5, hf⟩ := rthn_some hf
      refine sRetC1 (g_runS B h (ok_X5_isHistory B.2.2.2.2.2.2.2.2 B.2.2.2.2.2.2.1 _ _ v3 hq5) cw_X5_136 ⟨Nat.le_of_ble_eq_true rfl, Nat.le_of_ble_eq_true rfl⟩ rfl hl.1.symm rfl (Nat.le_of_ble_eq_true rfl) dX5_opposite_16 ⟨Nat.zero_le _, Nat.zero_le _⟩) h (fun H locs h => ?_)
      refine lv_if_ne (tgt := 26) hx hb dX5_opposite_19 (by decide) (fun c6 => ?_) (fun c6 => ?_)
      · rw [if_neg c6] at hf
        refine lv_iconst (v := (0 : Int32)) hx hb dX5_opposite_26 (by decide) ?_
        exact k_X5_opposite_27 B hr  _ _ _ _ _ hf _ _ _ h (lv_sub hl [0, 1, 2, 3] rfl)
      · rw [if_pos c6] at hf
        refine lv_iconst (v := (1 : Int32)) hx hb dX5_opposite_22 (by decide) ?_
        refine lv_goto (tgt := 27) hx hb dX5_opposite_23 (by decide) ?_
        exact k_X5_opposite_27 B hr  _ _ _ _ _ hf _ _ _ h (lv_sub hl [0, 1, 2, 3] rfl)
set_option maxRecDepth 100000 in
theorem ok_X5_opposite {l : Launch} (hl0 : l.stackTraces = false) {D : va_G} {cy : Nat → ClassId} {ad : Nat → Nat} (hap : sAp ad) (X : sX) (σ : sM) (v1 : Int32) (v2 : Int32) (v3 : Int32) {r : Int32} {σ' : sM} (hf : f_X5_opposite v1 v2 v3 σ = some (r, σ')) : sMet l yX5_opposite (sWs yX5_opposite cX5_opposite 6 (some .int)) 3 72 0 0 D cy ad X σ [.ref (ad 44), .int v1, .int v2, .int v3] (.inr (some (.int r))) X σ' := by
  refine sMet_of (by decide +kernel) (Nat.le_of_ble_eq_true rfl) hap hl0 ?_
  intro p e s m args below meth c ls B hr htab hl h
  exact k_X5_opposite_0 B hr _ _ _ _  hf _ _ _ h hl
set_option maxHeartbeats 4000000 in
set_option maxRecDepth 100000 in
theorem k_X5_play_47 {p : Program} {l : Launch} {e : Env} {s : State} {m : MethodId} {args : Array Value} {below : List Frame} {meth : Method} {c : Code} {D : va_G} {cy : Nat → ClassId} {ad : Nat → Nat} {X : sX} {r : Int32} {σ' : sM} (B : sB p l s m meth c args cX5_play 5 RX5 D cy ad) (hr : meth.sig.returnType = (some .int)) : ∀ (n : Nat) (v1 : Int32) (v2 : Int32) (v3 : Int32) (v4 : Int32) (σ : sM), b_X5_play_47 n v1 v2 v3 v4 σ = some (r, σ') → sGo p l e { frames := 4, cells := 0, slots := 0, locals := 95 } s m args below meth c D cy ad X 5 (sQ below args s 0 0 D cy ad (.inr (some (.int r))) X σ') σ 47 [(0, .ref (ad 44)), (1, .int v1), (2, .int v2), (3, .int v3), (4, .int v4)] [] := by
  intro n
  induction n with
  | zero =>
    intro v1 v2 v3 v4 σ hf
    exact nomatch (show none = some (r, σ') from hf)
  | succ n ih =>
    intro v1 v2 v3 v4 σ hf
    replace hf : (chk (inb v1 3) (if (σ 58 (v1).toNatClampNeg) ≤ v4 then (some (v3, σ)) else (wthn (f_X5_does v2 (((30 : Int32) * v1) + v4) σ) (fun vr17 σ17 => if vr17 = 0 then (b_X5_play_47 n v1 v2 (v3 + (0 : Int32)) (v4 + 1) σ17) else (b_X5_play_47 n v1 v2 (v3 + (1 : Int32)) (v4 + 1) σ17))))) = some (r, σ') := hf
    intro H locs ls h hl
    have hx := B.1
    have hb := B.2.1
    refine lv_iload hx hb dX5_play_47 (lv_at hl 4 rfl) ?_
    refine lv_aload_n hx hb dX5_play_49 rfl (lv_at hl 0 rfl) ?_
    refine g_get B h 44 (by decide) (C := RX5) (T := TX5) (N := 21) (M_row _) rfl hin_X5 13 (by decide) hw842 rfl rfl dX5_play_50 ?_
    refine lv_iload_n hx hb dX5_play_53 rfl (lv_at hl 1 rfl) ?_
    obtain ⟨c15, hf⟩ := chk_some hf
    refine g_iald B h 58 (by decide) (n := 3) (fun _ => rfl) (inb_in c15) dX5_play_54 ?_
    refine lv_icmp_ge (tgt := 87) hx hb dX5_play_55 (by decide) (fun c16 => ?_) (fun c16 => ?_)
    · rw [if_pos c16] at hf
      refine lv_iload_n hx hb dX5_play_87 rfl (lv_at hl 3 rfl) ?_
      cases hf
      exact sE_i B hr h dX5_play_88
    · rw [if_neg c16] at hf
      refine lv_iload_n hx hb dX5_play_58 rfl (lv_at hl 3 rfl) ?_
      refine lv_aload_n hx hb dX5_play_59 rfl (lv_at hl 0 rfl) ?_
      refine lv_iload_n hx hb dX5_play_60 rfl (lv_at hl 2 rfl) ?_
      refine lv_bipush (v := (30 : Int32)) hx hb dX5_play_61 (by decide) ?_
      refine lv_iload_n hx hb dX5_play_63 rfl (lv_at hl 1 rfl) ?_
      refine lv_imul hx hb dX5_play_64 ?_
      refine lv_iload hx hb dX5_play_65 (lv_at hl 4 rfl) ?_
      refine lv_iadd hx hb dX5_play_67 ?_
      obtain ⟨vr17, σ17, hq17, hf⟩ := wthn_some hf
      refine sRetC1 (g_runV (k := 44) (T := TX5) (N := 21) B h (ok_X5_does B.2.2.2.2.2.2.2.2 B.2.2.2.2.2.2.1 _ _ v2 (((30 : Int32) * v1) + v4) hq17) cw_X5_152 ⟨Nat.le_of_ble_eq_true rfl, Nat.le_of_ble_eq_true rfl⟩ (by decide) (M_row _) rfl rfl hl.1.symm rfl (Nat.le_of_ble_eq_true rfl) dX5_play_68 ⟨Nat.zero_le _, Nat.zero_le _⟩) h (fun H locs h => ?_)
      refine lv_if_eq (tgt := 78) hx hb dX5_play_71 (by decide) (fun c18 => ?_) (fun c18 => ?_)
      · rw [if_pos c18] at hf
        refine lv_iconst (v := (0 : Int32)) hx hb dX5_play_78 (by decide) ?_
        refine lv_iadd hx hb dX5_play_79 ?_
        refine lv_istore_n (lv' := [(3, .int (v3 + (0 : Int32))), (0, .ref (ad 44)), (1, .int v1), (2, .int v2), (4, .int v4)]) hx hb dX5_play_80 rfl hl (by decide) rfl (fun ls hl => ?_)
        refine lv_iinc (v := (v4 + 1)) (lv' := [(4, .int (v4 + 1)), (3, .int (v3 + (0 : Int32))), (0, .ref (ad 44)), (1, .int v1), (2, .int v2)]) hx hb dX5_play_81 hl (k := 4) rfl rfl (by decide) rfl (fun ls hl => ?_)
        refine lv_goto (tgt := 47) hx hb dX5_play_84 (by decide) ?_
        exact ih _ _ _ _ _ hf _ _ _ h (lv_sub hl [2, 3, 4, 1, 0] rfl)
      · rw [if_neg c18] at hf
        refine lv_iconst (v := (1 : Int32)) hx hb dX5_play_74 (by decide) ?_
        refine lv_goto (tgt := 79) hx hb dX5_play_75 (by decide) ?_
        refine lv_iadd hx hb dX5_play_79 ?_
        refine lv_istore_n (lv' := [(3, .int (v3 + (1 : Int32))), (0, .ref (ad 44)), (1, .int v1), (2, .int v2), (4, .int v4)]) hx hb dX5_play_80 rfl hl (by decide) rfl (fun ls hl => ?_)
        refine lv_iinc (v := (v4 + 1)) (lv' := [(4, .int (v4 + 1)), (3, .int (v3 + (1 : Int32))), (0, .ref (ad 44)), (1, .int v1), (2, .int v2)]) hx hb dX5_play_81 hl (k := 4) rfl rfl (by decide) rfl (fun ls hl => ?_)
        refine lv_goto (tgt := 47) hx hb dX5_play_84 (by decide) ?_
        exact ih _ _ _ _ _ hf _ _ _ h (lv_sub hl [2, 3, 4, 1, 0] rfl)
set_option maxHeartbeats 4000000 in
set_option maxRecDepth 100000 in
theorem k_X5_play_0 {p : Program} {l : Launch} {e : Env} {s : State} {m : MethodId} {args : Array Value} {below : List Frame} {meth : Method} {c : Code} {D : va_G} {cy : Nat → ClassId} {ad : Nat → Nat} {X : sX} {r : Int32} {σ' : sM} (B : sB p l s m meth c args cX5_play 5 RX5 D cy ad) (hr : meth.sig.returnType = (some .int)) (v1 : Int32) (v2 : Int32) (σ : sM) (hf : f_X5_play v1 v2 σ = some (r, σ')) : sGo p l e { frames := 4, cells := 0, slots := 0, locals := 95 } s m args below meth c D cy ad X 5 (sQ below args s 0 0 D cy ad (.inr (some (.int r))) X σ') σ 0 [(0, .ref (ad 44)), (1, .int v1), (2, .int v2)] [] := by
  replace hf : (rthn (f_X5_isHistory v1 σ) (fun vr1 => if vr1 = 0 then (wthn (f_X5_refused (1 : Int32) σ) (fun vr3 σ3 => if vr3 = 0 then (b_X5_play_47 FU v1 v2 (0 : Int32) (0 : Int32) σ3) else (some ((0 : Int32), σ3)))) else (rthn (f_X5_isMap v2 σ) (fun vr5 => if vr5 = 0 then (wthn (f_X5_refused (1 : Int32) σ) (fun vr13 σ13 => if vr13 = 0 then (b_X5_play_47 FU v1 v2 (0 : Int32) (0 : Int32) σ13) else (some ((0 : Int32), σ13)))) else (wthn (f_X5_isTooMuch v1 v1 v2 σ) (fun vr7 σ7 => if vr7 = 0 then (wthn (f_X5_refused (0 : Int32) σ7) (fun vr9 σ9 => if vr9 = 0 then (b_X5_play_47 FU v1 v2 (0 : Int32) (0 : Int32) σ9) else (some ((0 : Int32), σ9)))) else (wthn (f_X5_refused (2 : Int32) σ7) (fun vr11 σ11 => if vr11 = 0 then (b_X5_play_47 FU v1 v2 (0 : Int32) (0 : Int32) σ11) else (some ((0 : Int32), σ11)))))))))) = some (r, σ') := hf
  intro H locs ls h hl
  have hx := B.1
  have hb := B.2.1
  refine lv_aload_n hx hb dX5_play_0 rfl (lv_at hl 0 rfl) ?_
  refine lv_iload_n hx hb dX5_play_1 rfl (lv_at hl 1 rfl) ?_
  obtain ⟨vr1, hq1, hf⟩ := rthn_some hf
  refine sRetC1 (g_runS B h (ok_X5_isHistory B.2.2.2.2.2.2.2.2 B.2.2.2.2.2.2.1 _ _ v1 hq1) cw_X5_136 ⟨Nat.le_of_ble_eq_true rfl, Nat.le_of_ble_eq_true rfl⟩ rfl hl.1.symm rfl (Nat.le_of_ble_eq_true rfl) dX5_play_2 ⟨Nat.zero_le _, Nat.zero_le _⟩) h (fun H locs h => ?_)
  refine lv_if_eq (tgt := 15) hx hb dX5_play_5 (by decide) (fun c2 => ?_) (fun c2 => ?_)
  · rw [if_pos c2] at hf
    refine lv_iconst (v := (1 : Int32)) hx hb dX5_play_15 (by decide) ?_
    refine lv_goto (tgt := 34) hx hb dX5_play_16 (by decide) ?_
    obtain ⟨vr3, σ3, hq3, hf⟩ := wthn_some hf
    refine sRetC1 (g_runV (k := 44) (T := TX5) (N := 21) B h (ok_X5_refused B.2.2.2.2.2.2.2.2 B.2.2.2.2.2.2.1 _ _ (1 : Int32) hq3) cw_X5_95 ⟨Nat.le_of_ble_eq_true rfl, Nat.le_of_ble_eq_true rfl⟩ (by decide) (M_row _) rfl rfl hl.1.symm rfl (Nat.le_of_ble_eq_true rfl) dX5_play_34 ⟨Nat.zero_le _, Nat.zero_le _⟩) h (fun H locs h => ?_)
    refine lv_if_eq (tgt := 42) hx hb dX5_play_37 (by decide) (fun c4 => ?_) (fun c4 => ?_)
    · rw [if_pos c4] at hf
      refine lv_iconst (v := (0 : Int32)) hx hb dX5_play_42 (by decide) ?_
      refine lv_istore_n (lv' := [(3, .int (0 : Int32)), (0, .ref (ad 44)), (1, .int v1), (2, .int v2)]) hx hb dX5_play_43 rfl hl (by decide) rfl (fun ls hl => ?_)
      refine lv_iconst (v := (0 : Int32)) hx hb dX5_play_44 (by decide) ?_
      refine lv_istore (lv' := [(4, .int (0 : Int32)), (3, .int (0 : Int32)), (0, .ref (ad 44)), (1, .int v1), (2, .int v2)]) hx hb dX5_play_45 hl (by decide) rfl (fun ls hl => ?_)
      exact k_X5_play_47 B hr  _ _ _ _ _ _ hf _ _ _ h (lv_sub hl [2, 3, 4, 1, 0] rfl)
    · rw [if_neg c4] at hf
      refine lv_iconst (v := (0 : Int32)) hx hb dX5_play_40 (by decide) ?_
      cases hf
      exact sE_i B hr h dX5_play_41
  · rw [if_neg c2] at hf
    refine lv_iload_n hx hb dX5_play_8 rfl (lv_at hl 2 rfl) ?_
    obtain ⟨vr5, hq5, hf⟩ := rthn_some hf
    refine sRetC1 (g_runS B h (ok_X5_isMap B.2.2.2.2.2.2.2.2 B.2.2.2.2.2.2.1 _ _ v2 hq5) cw_X5_87 ⟨Nat.le_of_ble_eq_true rfl, Nat.le_of_ble_eq_true rfl⟩ rfl hl.1.symm rfl (Nat.le_of_ble_eq_true rfl) dX5_play_9 ⟨Nat.zero_le _, Nat.zero_le _⟩) h (fun H locs h => ?_)
    refine lv_if_ne (tgt := 19) hx hb dX5_play_12 (by decide) (fun c6 => ?_) (fun c6 => ?_)
    · rw [if_neg c6] at hf
      refine lv_aload_n hx hb dX5_play_19 rfl (lv_at hl 0 rfl) ?_
      refine lv_iload_n hx hb dX5_play_20 rfl (lv_at hl 1 rfl) ?_
      refine lv_iload_n hx hb dX5_play_21 rfl (lv_at hl 1 rfl) ?_
      refine lv_iload_n hx hb dX5_play_22 rfl (lv_at hl 2 rfl) ?_
      obtain ⟨vr7, σ7, hq7, hf⟩ := wthn_some hf
      refine sRetC1 (g_runV (k := 44) (T := TX5) (N := 21) B h (ok_X5_isTooMuch B.2.2.2.2.2.2.2.2 B.2.2.2.2.2.2.1 _ _ v1 v1 v2 hq7) cw_X5_149 ⟨Nat.le_of_ble_eq_true rfl, Nat.le_of_ble_eq_true rfl⟩ (by decide) (M_row _) rfl rfl hl.1.symm rfl (Nat.le_of_ble_eq_true rfl) dX5_play_23 ⟨Nat.zero_le _, Nat.zero_le _⟩) h (fun H locs h => ?_)
      refine lv_if_eq (tgt := 33) hx hb dX5_play_26 (by decide) (fun c8 => ?_) (fun c8 => ?_)
      · rw [if_pos c8] at hf
        refine lv_iconst (v := (0 : Int32)) hx hb dX5_play_33 (by decide) ?_
        obtain ⟨vr9, σ9, hq9, hf⟩ := wthn_some hf
        refine sRetC1 (g_runV (k := 44) (T := TX5) (N := 21) B h (ok_X5_refused B.2.2.2.2.2.2.2.2 B.2.2.2.2.2.2.1 _ _ (0 : Int32) hq9) cw_X5_95 ⟨Nat.le_of_ble_eq_true rfl, Nat.le_of_ble_eq_true rfl⟩ (by decide) (M_row _) rfl rfl hl.1.symm rfl (Nat.le_of_ble_eq_true rfl) dX5_play_34 ⟨Nat.zero_le _, Nat.zero_le _⟩) h (fun H locs h => ?_)
        refine lv_if_eq (tgt := 42) hx hb dX5_play_37 (by decide) (fun c10 => ?_) (fun c10 => ?_)
        · rw [if_pos c10] at hf
          refine lv_iconst (v := (0 : Int32)) hx hb dX5_play_42 (by decide) ?_
          refine lv_istore_n (lv' := [(3, .int (0 : Int32)), (0, .ref (ad 44)), (1, .int v1), (2, .int v2)]) hx hb dX5_play_43 rfl hl (by decide) rfl (fun ls hl => ?_)
          refine lv_iconst (v := (0 : Int32)) hx hb dX5_play_44 (by decide) ?_
          refine lv_istore (lv' := [(4, .int (0 : Int32)), (3, .int (0 : Int32)), (0, .ref (ad 44)), (1, .int v1), (2, .int v2)]) hx hb dX5_play_45 hl (by decide) rfl (fun ls hl => ?_)
          exact k_X5_play_47 B hr  _ _ _ _ _ _ hf _ _ _ h (lv_sub hl [2, 3, 4, 1, 0] rfl)
        · rw [if_neg c10] at hf
          refine lv_iconst (v := (0 : Int32)) hx hb dX5_play_40 (by decide) ?_
          cases hf
          exact sE_i B hr h dX5_play_41
      · rw [if_neg c8] at hf
        refine lv_iconst (v := (2 : Int32)) hx hb dX5_play_29 (by decide) ?_
        refine lv_goto (tgt := 34) hx hb dX5_play_30 (by decide) ?_
        obtain ⟨vr11, σ11, hq11, hf⟩ := wthn_some hf
        refine sRetC1 (g_runV (k := 44) (T := TX5) (N := 21) B h (ok_X5_refused B.2.2.2.2.2.2.2.2 B.2.2.2.2.2.2.1 _ _ (2 : Int32) hq11) cw_X5_95 ⟨Nat.le_of_ble_eq_true rfl, Nat.le_of_ble_eq_true rfl⟩ (by decide) (M_row _) rfl rfl hl.1.symm rfl (Nat.le_of_ble_eq_true rfl) dX5_play_34 ⟨Nat.zero_le _, Nat.zero_le _⟩) h (fun H locs h => ?_)
        refine lv_if_eq (tgt := 42) hx hb dX5_play_37 (by decide) (fun c12 => ?_) (fun c12 => ?_)
        · rw [if_pos c12] at hf
          refine lv_iconst (v := (0 : Int32)) hx hb dX5_play_42 (by decide) ?_
          refine lv_istore_n (lv' := [(3, .int (0 : Int32)), (0, .ref (ad 44)), (1, .int v1), (2, .int v2)]) hx hb dX5_play_43 rfl hl (by decide) rfl (fun ls hl => ?_)
          refine lv_iconst (v := (0 : Int32)) hx hb dX5_play_44 (by decide) ?_
          refine lv_istore (lv' := [(4, .int (0 : Int32)), (3, .int (0 : Int32)), (0, .ref (ad 44)), (1, .int v1), (2, .int v2)]) hx hb dX5_play_45 hl (by decide) rfl (fun ls hl => ?_)
          exact k_X5_play_47 B hr  _ _ _ _ _ _ hf _ _ _ h (lv_sub hl [2, 3, 4, 1, 0] rfl)
        · rw [if_neg c12] at hf
          refine lv_iconst (v := (0 : Int32)) hx hb dX5_play_40 (by decide) ?_
          cases hf
          exact sE_i B hr h dX5_play_41
    · rw [if_pos c6] at hf
      refine lv_iconst (v := (1 : Int32)) hx hb dX5_play_15 (by decide) ?_
      refine lv_goto (tgt := 34) hx hb dX5_play_16 (by decide) ?_
      obtain ⟨vr13, σ13, hq13, hf⟩ := wthn_some hf
      refine sRetC1 (g_runV (k := 44) (T := TX5) (N := 21) B h (ok_X5_refused B.2.2.2.2.2.2.2.2 B.2.2.2.2.2.2.1 _ _ (1 : Int32) hq13) cw_X5_95 ⟨Nat.le_of_ble_eq_true rfl, Nat.le_of_ble_eq_true rfl⟩ (by decide) (M_row _) rfl rfl hl.1.symm rfl (Nat.le_of_ble_eq_true rfl) dX5_play_34 ⟨Nat.zero_le _, Nat.zero_le _⟩) h (fun H locs h => ?_)
      refine lv_if_eq (tgt := 42) hx hb dX5_play_37 (by decide) (fun c14 => ?_) (fun c14 => ?_)
      · rw [if_pos c14] at hf
        refine lv_iconst (v := (0 : Int32)) hx hb dX5_play_42 (by decide) ?_
        refine lv_istore_n (lv' := [(3, .int (0 : Int32)), (0, .ref (ad 44)), (1, .int v1), (2, .int v2)]) hx hb dX5_play_43 rfl hl (by decide) rfl (fun ls hl => ?_)
        refine lv_iconst (v := (0 : Int32)) hx hb dX5_play_44 (by decide) ?_
        refine lv_istore (lv' := [(4, .int (0 : Int32)), (3, .int (0 : Int32)), (0, .ref (ad 44)), (1, .int v1), (2, .int v2)]) hx hb dX5_play_45 hl (by decide) rfl (fun ls hl => ?_)
        exact k_X5_play_47 B hr  _ _ _ _ _ _ hf _ _ _ h (lv_sub hl [2, 3, 4, 1, 0] rfl)
      · rw [if_neg c14] at hf
        refine lv_iconst (v := (0 : Int32)) hx hb dX5_play_40 (by decide) ?_
        cases hf
        exact sE_i B hr h dX5_play_41
set_option maxRecDepth 100000 in
theorem ok_X5_play {l : Launch} (hl0 : l.stackTraces = false) {D : va_G} {cy : Nat → ClassId} {ad : Nat → Nat} (hap : sAp ad) (X : sX) (σ : sM) (v1 : Int32) (v2 : Int32) {r : Int32} {σ' : sM} (hf : f_X5_play v1 v2 σ = some (r, σ')) : sMet l yX5_play (sWs yX5_play cX5_play 5 (some .int)) 4 95 0 0 D cy ad X σ [.ref (ad 44), .int v1, .int v2] (.inr (some (.int r))) X σ' := by
  refine sMet_of (by decide +kernel) (Nat.le_of_ble_eq_true rfl) hap hl0 ?_
  intro p e s m args below meth c ls B hr htab hl h
  exact k_X5_play_0 B hr _ _ _  hf _ _ _ h hl
set_option maxHeartbeats 4000000 in
set_option maxRecDepth 100000 in
theorem k_X5_playBoth_178 {p : Program} {l : Launch} {e : Env} {s : State} {m : MethodId} {args : Array Value} {below : List Frame} {meth : Method} {c : Code} {D : va_G} {cy : Nat → ClassId} {ad : Nat → Nat} {X : sX} {r : Int32} {σ' : sM} (B : sB p l s m meth c args cX5_playBoth 10 RX5 D cy ad) (hr : meth.sig.returnType = (some .int)) {K60 : Int32 → Int32 → Int32 → Int32 → Int32 → Int32 → Int32 → sM → Option (Int32 × sM)} (hK60 : ∀ (v1 : Int32) (v2 : Int32) (v3 : Int32) (v4 : Int32) (v5 : Int32) (v6 : Int32) (v7 : Int32) (σ : sM), K60 v1 v2 v3 v4 v5 v6 v7 σ = some (r, σ') → sGo p l e { frames := 4, cells := 0, slots := 0, locals := 95 } s m args below meth c D cy ad X 10 (sQ below args s 0 0 D cy ad (.inr (some (.int r))) X σ') σ 60 [(0, .ref (ad 44)), (1, .int v1), (2, .int v2), (3, .int v3), (4, .int v4), (5, .int v5), (6, .int v6), (7, .int v7)] []) (v1 : Int32) (v2 : Int32) (v3 : Int32) (v4 : Int32) (v6 : Int32) (v7 : Int32) (v8 : Int32) (vs0 : Int32) (vs1 : Int32) (σ : sM) (hf : b_X5_playBoth_178 K60 v1 v2 v3 v4 v6 v7 v8 vs0 vs1 σ = some (r, σ')) : sGo p l e { frames := 4, cells := 0, slots := 0, locals := 95 } s m args below meth c D cy ad X 10 (sQ below args s 0 0 D cy ad (.inr (some (.int r))) X σ') σ 178 [(0, .ref (ad 44)), (1, .int v1), (2, .int v2), (3, .int v3), (4, .int v4), (6, .int v6), (7, .int v7), (8, .int v8)] [.int vs1, .int vs0] := by
  replace hf : (if v8 = 0 then (K60 v1 v2 v3 v4 (vs0 + vs1) (v6 + (0 : Int32)) (v7 + 1) σ) else (K60 v1 v2 v3 v4 (vs0 + vs1) (v6 + (1 : Int32)) (v7 + 1) σ)) = some (r, σ') := hf
  intro H locs ls h hl
  have hx := B.1
  have hb := B.2.1
  refine lv_iadd hx hb dX5_playBoth_178 ?_
  refine lv_istore (lv' := [(5, .int (vs0 + vs1)), (0, .ref (ad 44)), (1, .int v1), (2, .int v2), (3, .int v3), (4, .int v4), (6, .int v6), (7, .int v7), (8, .int v8)]) hx hb dX5_playBoth_179 hl (by decide) rfl (fun ls hl => ?_)
  refine lv_iload hx hb dX5_playBoth_181 (lv_at hl 6 rfl) ?_
  refine lv_iload hx hb dX5_playBoth_183 (lv_at hl 8 rfl) ?_
  refine lv_if_eq (tgt := 192) hx hb dX5_playBoth_185 (by decide) (fun c36 => ?_) (fun c36 => ?_)
  · rw [if_pos c36] at hf
    refine lv_iconst (v := (0 : Int32)) hx hb dX5_playBoth_192 (by decide) ?_
    refine lv_iadd hx hb dX5_playBoth_193 ?_
    refine lv_istore (lv' := [(6, .int (v6 + (0 : Int32))), (5, .int (vs0 + vs1)), (0, .ref (ad 44)), (1, .int v1), (2, .int v2), (3, .int v3), (4, .int v4), (7, .int v7), (8, .int v8)]) hx hb dX5_playBoth_194 hl (by decide) rfl (fun ls hl => ?_)
    refine lv_iinc (v := (v7 + 1)) (lv' := [(7, .int (v7 + 1)), (6, .int (v6 + (0 : Int32))), (5, .int (vs0 + vs1)), (0, .ref (ad 44)), (1, .int v1), (2, .int v2), (3, .int v3), (4, .int v4), (8, .int v8)]) hx hb dX5_playBoth_196 hl (k := 7) rfl rfl (by decide) rfl (fun ls hl => ?_)
    refine lv_goto (tgt := 60) hx hb dX5_playBoth_199 (by decide) ?_
    exact hK60 _ _ _ _ _ _ _ _ hf _ _ _ h (lv_sub hl [3, 4, 5, 6, 7, 2, 1, 0] rfl)
  · rw [if_neg c36] at hf
    refine lv_iconst (v := (1 : Int32)) hx hb dX5_playBoth_188 (by decide) ?_
    refine lv_goto (tgt := 193) hx hb dX5_playBoth_189 (by decide) ?_
    refine lv_iadd hx hb dX5_playBoth_193 ?_
    refine lv_istore (lv' := [(6, .int (v6 + (1 : Int32))), (5, .int (vs0 + vs1)), (0, .ref (ad 44)), (1, .int v1), (2, .int v2), (3, .int v3), (4, .int v4), (7, .int v7), (8, .int v8)]) hx hb dX5_playBoth_194 hl (by decide) rfl (fun ls hl => ?_)
    refine lv_iinc (v := (v7 + 1)) (lv' := [(7, .int (v7 + 1)), (6, .int (v6 + (1 : Int32))), (5, .int (vs0 + vs1)), (0, .ref (ad 44)), (1, .int v1), (2, .int v2), (3, .int v3), (4, .int v4), (8, .int v8)]) hx hb dX5_playBoth_196 hl (k := 7) rfl rfl (by decide) rfl (fun ls hl => ?_)
    refine lv_goto (tgt := 60) hx hb dX5_playBoth_199 (by decide) ?_
    exact hK60 _ _ _ _ _ _ _ _ hf _ _ _ h (lv_sub hl [3, 4, 5, 6, 7, 2, 1, 0] rfl)
set_option maxHeartbeats 4000000 in
set_option maxRecDepth 100000 in
theorem k_X5_playBoth_134 {p : Program} {l : Launch} {e : Env} {s : State} {m : MethodId} {args : Array Value} {below : List Frame} {meth : Method} {c : Code} {D : va_G} {cy : Nat → ClassId} {ad : Nat → Nat} {X : sX} {r : Int32} {σ' : sM} (B : sB p l s m meth c args cX5_playBoth 10 RX5 D cy ad) (hr : meth.sig.returnType = (some .int)) {K60 : Int32 → Int32 → Int32 → Int32 → Int32 → Int32 → Int32 → sM → Option (Int32 × sM)} (hK60 : ∀ (v1 : Int32) (v2 : Int32) (v3 : Int32) (v4 : Int32) (v5 : Int32) (v6 : Int32) (v7 : Int32) (σ : sM), K60 v1 v2 v3 v4 v5 v6 v7 σ = some (r, σ') → sGo p l e { frames := 4, cells := 0, slots := 0, locals := 95 } s m args below meth c D cy ad X 10 (sQ below args s 0 0 D cy ad (.inr (some (.int r))) X σ') σ 60 [(0, .ref (ad 44)), (1, .int v1), (2, .int v2), (3, .int v3), (4, .int v4), (5, .int v5), (6, .int v6), (7, .int v7)] []) (v1 : Int32) (v2 : Int32) (v3 : Int32) (v4 : Int32) (v5 : Int32) (v6 : Int32) (v7 : Int32) (vs0 : Int32) (σ : sM) (hf : b_X5_playBoth_134 K60 v1 v2 v3 v4 v5 v6 v7 vs0 σ = some (r, σ')) : sGo p l e { frames := 4, cells := 0, slots := 0, locals := 95 } s m args below meth c D cy ad X 10 (sQ below args s 0 0 D cy ad (.inr (some (.int r))) X σ') σ 134 [(0, .ref (ad 44)), (1, .int v1), (2, .int v2), (3, .int v3), (4, .int v4), (5, .int v5), (6, .int v6), (7, .int v7)] [.int vs0] := by
  replace hf : (if vs0 = 0 then (wthn (f_X5_does v4 (((30 : Int32) * v1) + v5) σ) (fun vr32 σ32 => if vs0 = 0 then (b_X5_playBoth_178 K60 v1 v2 v3 v4 v6 v7 vs0 v5 (1 : Int32) σ32) else (b_X5_playBoth_178 K60 v1 v2 v3 v4 v6 v7 vs0 v5 (0 : Int32) σ32))) else (wthn (f_X5_does v4 (((30 : Int32) * v2) + v6) σ) (fun vr34 σ34 => if vs0 = 0 then (b_X5_playBoth_178 K60 v1 v2 v3 v4 v6 v7 vs0 v5 (1 : Int32) σ34) else (b_X5_playBoth_178 K60 v1 v2 v3 v4 v6 v7 vs0 v5 (0 : Int32) σ34)))) = some (r, σ') := hf
  intro H locs ls h hl
  have hx := B.1
  have hb := B.2.1
  refine lv_istore (lv' := [(8, .int vs0), (0, .ref (ad 44)), (1, .int v1), (2, .int v2), (3, .int v3), (4, .int v4), (5, .int v5), (6, .int v6), (7, .int v7)]) hx hb dX5_playBoth_134 hl (by decide) rfl (fun ls hl => ?_)
  refine lv_aload_n hx hb dX5_playBoth_136 rfl (lv_at hl 1 rfl) ?_
  refine lv_iload hx hb dX5_playBoth_137 (lv_at hl 5 rfl) ?_
  refine lv_iload hx hb dX5_playBoth_139 (lv_at hl 0 rfl) ?_
  refine lv_if_eq (tgt := 154) hx hb dX5_playBoth_141 (by decide) (fun c31 => ?_) (fun c31 => ?_)
  · rw [if_pos c31] at hf
    refine lv_bipush (v := (30 : Int32)) hx hb dX5_playBoth_154 (by decide) ?_
    refine lv_iload_n hx hb dX5_playBoth_156 rfl (lv_at hl 2 rfl) ?_
    refine lv_imul hx hb dX5_playBoth_157 ?_
    refine lv_iload hx hb dX5_playBoth_158 (lv_at hl 6 rfl) ?_
    refine lv_iadd hx hb dX5_playBoth_160 ?_
    obtain ⟨vr32, σ32, hq32, hf⟩ := wthn_some hf
    refine sRetC1 (g_runV (k := 44) (T := TX5) (N := 21) B h (ok_X5_does B.2.2.2.2.2.2.2.2 B.2.2.2.2.2.2.1 _ _ v4 (((30 : Int32) * v1) + v5) hq32) cw_X5_152 ⟨Nat.le_of_ble_eq_true rfl, Nat.le_of_ble_eq_true rfl⟩ (by decide) (M_row _) rfl rfl hl.1.symm rfl (Nat.le_of_ble_eq_true rfl) dX5_playBoth_161 ⟨Nat.zero_le _, Nat.zero_le _⟩) h (fun H locs h => ?_)
    refine lv_istore (lv' := [(9, .int vr32), (8, .int vs0), (0, .ref (ad 44)), (1, .int v1), (2, .int v2), (3, .int v3), (4, .int v4), (5, .int v5), (6, .int v6), (7, .int v7)]) hx hb dX5_playBoth_164 hl (by decide) rfl (fun ls hl => ?_)
    refine lv_iload hx hb dX5_playBoth_166 (lv_at hl 7 rfl) ?_
    refine lv_iload hx hb dX5_playBoth_168 (lv_at hl 1 rfl) ?_
    refine lv_if_eq (tgt := 177) hx hb dX5_playBoth_170 (by decide) (fun c33 => ?_) (fun c33 => ?_)
    · rw [if_pos c33] at hf
      refine lv_iconst (v := (1 : Int32)) hx hb dX5_playBoth_177 (by decide) ?_
      exact k_X5_playBoth_178 B hr hK60 _ _ _ _ _ _ _ _ _ _ hf _ _ _ h (lv_sub hl [2, 3, 4, 5, 6, 8, 9, 1] rfl)
    · rw [if_neg c33] at hf
      refine lv_iconst (v := (0 : Int32)) hx hb dX5_playBoth_173 (by decide) ?_
      refine lv_goto (tgt := 178) hx hb dX5_playBoth_174 (by decide) ?_
      exact k_X5_playBoth_178 B hr hK60 _ _ _ _ _ _ _ _ _ _ hf _ _ _ h (lv_sub hl [2, 3, 4, 5, 6, 8, 9, 1] rfl)
  · rw [if_neg c31] at hf
    refine lv_bipush (v := (30 : Int32)) hx hb dX5_playBoth_144 (by decide) ?_
    refine lv_iload_n hx hb dX5_playBoth_146 rfl (lv_at hl 3 rfl) ?_
    refine lv_imul hx hb dX5_playBoth_147 ?_
    refine lv_iload hx hb dX5_playBoth_148 (lv_at hl 7 rfl) ?_
    refine lv_iadd hx hb dX5_playBoth_150 ?_
    refine lv_goto (tgt := 161) hx hb dX5_playBoth_151 (by decide) ?_
    obtain ⟨vr34, σ34, hq34, hf⟩ := wthn_some hf
    refine sRetC1 (g_runV (k := 44) (T := TX5) (N := 21) B h (ok_X5_does B.2.2.2.2.2.2.2.2 B.2.2.2.2.2.2.1 _ _ v4 (((30 : Int32) * v2) + v6) hq34) cw_X5_152 ⟨Nat.le_of_ble_eq_true rfl, Nat.le_of_ble_eq_true rfl⟩ (by decide) (M_row _) rfl rfl hl.1.symm rfl (Nat.le_of_ble_eq_true rfl) dX5_playBoth_161 ⟨Nat.zero_le _, Nat.zero_le _⟩) h (fun H locs h => ?_)
    refine lv_istore (lv' := [(9, .int vr34), (8, .int vs0), (0, .ref (ad 44)), (1, .int v1), (2, .int v2), (3, .int v3), (4, .int v4), (5, .int v5), (6, .int v6), (7, .int v7)]) hx hb dX5_playBoth_164 hl (by decide) rfl (fun ls hl => ?_)
    refine lv_iload hx hb dX5_playBoth_166 (lv_at hl 7 rfl) ?_
    refine lv_iload hx hb dX5_playBoth_168 (lv_at hl 1 rfl) ?_
    refine lv_if_eq (tgt := 177) hx hb dX5_playBoth_170 (by decide) (fun c35 => ?_) (fun c35 => ?_)
    · rw [if_pos c35] at hf
      refine lv_iconst (v := (1 : Int32)) hx hb dX5_playBoth_177 (by decide) ?_
      exact k_X5_playBoth_178 B hr hK60 _ _ _ _ _ _ _ _ _ _ hf _ _ _ h (lv_sub hl [2, 3, 4, 5, 6, 8, 9, 1] rfl)
    · rw [if_neg c35] at hf
      refine lv_iconst (v := (0 : Int32)) hx hb dX5_playBoth_173 (by decide) ?_
      refine lv_goto (tgt := 178) hx hb dX5_playBoth_174 (by decide) ?_
      exact k_X5_playBoth_178 B hr hK60 _ _ _ _ _ _ _ _ _ _ hf _ _ _ h (lv_sub hl [2, 3, 4, 5, 6, 8, 9, 1] rfl)
set_option maxHeartbeats 4000000 in
set_option maxRecDepth 100000 in
theorem k_X5_playBoth_100 {p : Program} {l : Launch} {e : Env} {s : State} {m : MethodId} {args : Array Value} {below : List Frame} {meth : Method} {c : Code} {D : va_G} {cy : Nat → ClassId} {ad : Nat → Nat} {X : sX} {r : Int32} {σ' : sM} (B : sB p l s m meth c args cX5_playBoth 10 RX5 D cy ad) (hr : meth.sig.returnType = (some .int)) {K60 : Int32 → Int32 → Int32 → Int32 → Int32 → Int32 → Int32 → sM → Option (Int32 × sM)} (hK60 : ∀ (v1 : Int32) (v2 : Int32) (v3 : Int32) (v4 : Int32) (v5 : Int32) (v6 : Int32) (v7 : Int32) (σ : sM), K60 v1 v2 v3 v4 v5 v6 v7 σ = some (r, σ') → sGo p l e { frames := 4, cells := 0, slots := 0, locals := 95 } s m args below meth c D cy ad X 10 (sQ below args s 0 0 D cy ad (.inr (some (.int r))) X σ') σ 60 [(0, .ref (ad 44)), (1, .int v1), (2, .int v2), (3, .int v3), (4, .int v4), (5, .int v5), (6, .int v6), (7, .int v7)] []) (v1 : Int32) (v2 : Int32) (v3 : Int32) (v4 : Int32) (v5 : Int32) (v6 : Int32) (v7 : Int32) (vs0 : Int32) (σ : sM) (hf : b_X5_playBoth_100 K60 v1 v2 v3 v4 v5 v6 v7 vs0 σ = some (r, σ')) : sGo p l e { frames := 4, cells := 0, slots := 0, locals := 95 } s m args below meth c D cy ad X 10 (sQ below args s 0 0 D cy ad (.inr (some (.int r))) X σ') σ 100 [(0, .ref (ad 44)), (1, .int v1), (2, .int v2), (3, .int v3), (4, .int v4), (5, .int v5), (6, .int v6), (7, .int v7)] [.int vs0] := by
  replace hf : (chk (inb v1 3) (if v5 = (σ 58 (v1).toNatClampNeg) then (b_X5_playBoth_134 K60 v1 v2 v3 v4 v5 v6 v7 (1 : Int32) σ) else (if vs0 = 0 then (b_X5_playBoth_134 K60 v1 v2 v3 v4 v5 v6 v7 (0 : Int32) σ) else (chk (inb v2 3) (if (σ 58 (v2).toNatClampNeg) ≤ v6 then (b_X5_playBoth_134 K60 v1 v2 v3 v4 v5 v6 v7 (0 : Int32) σ) else (b_X5_playBoth_134 K60 v1 v2 v3 v4 v5 v6 v7 (1 : Int32) σ)))))) = some (r, σ') := hf
  intro H locs ls h hl
  have hx := B.1
  have hb := B.2.1
  refine lv_istore (lv' := [(8, .int vs0), (0, .ref (ad 44)), (1, .int v1), (2, .int v2), (3, .int v3), (4, .int v4), (5, .int v5), (6, .int v6), (7, .int v7)]) hx hb dX5_playBoth_100 hl (by decide) rfl (fun ls hl => ?_)
  refine lv_iload hx hb dX5_playBoth_102 (lv_at hl 6 rfl) ?_
  refine lv_aload_n hx hb dX5_playBoth_104 rfl (lv_at hl 1 rfl) ?_
  refine g_get B h 44 (by decide) (C := RX5) (T := TX5) (N := 21) (M_row _) rfl hin_X5 13 (by decide) hw842 rfl rfl dX5_playBoth_105 ?_
  refine lv_iload_n hx hb dX5_playBoth_108 rfl (lv_at hl 2 rfl) ?_
  obtain ⟨c26, hf⟩ := chk_some hf
  refine g_iald B h 58 (by decide) (n := 3) (fun _ => rfl) (inb_in c26) dX5_playBoth_109 ?_
  refine lv_icmp_eq (tgt := 129) hx hb dX5_playBoth_110 (by decide) (fun c27 => ?_) (fun c27 => ?_)
  · rw [if_pos c27] at hf
    refine lv_iconst (v := (1 : Int32)) hx hb dX5_playBoth_129 (by decide) ?_
    refine lv_goto (tgt := 134) hx hb dX5_playBoth_130 (by decide) ?_
    exact k_X5_playBoth_134 B hr hK60 _ _ _ _ _ _ _ _ _ hf _ _ _ h (lv_sub hl [1, 2, 3, 4, 5, 6, 7, 8] rfl)
  · rw [if_neg c27] at hf
    refine lv_iload hx hb dX5_playBoth_113 (lv_at hl 0 rfl) ?_
    refine lv_if_eq (tgt := 133) hx hb dX5_playBoth_115 (by decide) (fun c28 => ?_) (fun c28 => ?_)
    · rw [if_pos c28] at hf
      refine lv_iconst (v := (0 : Int32)) hx hb dX5_playBoth_133 (by decide) ?_
      exact k_X5_playBoth_134 B hr hK60 _ _ _ _ _ _ _ _ _ hf _ _ _ h (lv_sub hl [1, 2, 3, 4, 5, 6, 7, 8] rfl)
    · rw [if_neg c28] at hf
      refine lv_iload hx hb dX5_playBoth_118 (lv_at hl 7 rfl) ?_
      refine lv_aload_n hx hb dX5_playBoth_120 rfl (lv_at hl 1 rfl) ?_
      refine g_get B h 44 (by decide) (C := RX5) (T := TX5) (N := 21) (M_row _) rfl hin_X5 13 (by decide) hw842 rfl rfl dX5_playBoth_121 ?_
      refine lv_iload_n hx hb dX5_playBoth_124 rfl (lv_at hl 3 rfl) ?_
      obtain ⟨c29, hf⟩ := chk_some hf
      refine g_iald B h 58 (by decide) (n := 3) (fun _ => rfl) (inb_in c29) dX5_playBoth_125 ?_
      refine lv_icmp_ge (tgt := 133) hx hb dX5_playBoth_126 (by decide) (fun c30 => ?_) (fun c30 => ?_)
      · rw [if_pos c30] at hf
        refine lv_iconst (v := (0 : Int32)) hx hb dX5_playBoth_133 (by decide) ?_
        exact k_X5_playBoth_134 B hr hK60 _ _ _ _ _ _ _ _ _ hf _ _ _ h (lv_sub hl [1, 2, 3, 4, 5, 6, 7, 8] rfl)
      · rw [if_neg c30] at hf
        refine lv_iconst (v := (1 : Int32)) hx hb dX5_playBoth_129 (by decide) ?_
        refine lv_goto (tgt := 134) hx hb dX5_playBoth_130 (by decide) ?_
        exact k_X5_playBoth_134 B hr hK60 _ _ _ _ _ _ _ _ _ hf _ _ _ h (lv_sub hl [1, 2, 3, 4, 5, 6, 7, 8] rfl)
set_option maxHeartbeats 4000000 in
set_option maxRecDepth 100000 in
theorem k_X5_playBoth_60 {p : Program} {l : Launch} {e : Env} {s : State} {m : MethodId} {args : Array Value} {below : List Frame} {meth : Method} {c : Code} {D : va_G} {cy : Nat → ClassId} {ad : Nat → Nat} {X : sX} {r : Int32} {σ' : sM} (B : sB p l s m meth c args cX5_playBoth 10 RX5 D cy ad) (hr : meth.sig.returnType = (some .int)) : ∀ (n : Nat) (v1 : Int32) (v2 : Int32) (v3 : Int32) (v4 : Int32) (v5 : Int32) (v6 : Int32) (v7 : Int32) (σ : sM), b_X5_playBoth_60 n v1 v2 v3 v4 v5 v6 v7 σ = some (r, σ') → sGo p l e { frames := 4, cells := 0, slots := 0, locals := 95 } s m args below meth c D cy ad X 10 (sQ below args s 0 0 D cy ad (.inr (some (.int r))) X σ') σ 60 [(0, .ref (ad 44)), (1, .int v1), (2, .int v2), (3, .int v3), (4, .int v4), (5, .int v5), (6, .int v6), (7, .int v7)] [] := by
  intro n
  induction n with
  | zero =>
    intro v1 v2 v3 v4 v5 v6 v7 σ hf
    exact nomatch (show none = some (r, σ') from hf)
  | succ n ih =>
    intro v1 v2 v3 v4 v5 v6 v7 σ hf
    replace hf : (chk (inb v1 3) (if v5 < (σ 58 (v1).toNatClampNeg) then (if (((v3.toUInt32 >>> ((v7 - v7 / (32 : Int32) * (32 : Int32)).toUInt32 &&& Int32.toUInt32 31)).toInt32) &&& (1 : Int32)) = (1 : Int32) then (b_X5_playBoth_100 (b_X5_playBoth_60 n) v1 v2 v3 v4 v5 v6 v7 (1 : Int32) σ) else (b_X5_playBoth_100 (b_X5_playBoth_60 n) v1 v2 v3 v4 v5 v6 v7 (0 : Int32) σ)) else (chk (inb v2 3) (if (σ 58 (v2).toNatClampNeg) ≤ v6 then (chk (inb v4 3) (some ((σ 47 (v4).toNatClampNeg), σ))) else (if (((v3.toUInt32 >>> ((v7 - v7 / (32 : Int32) * (32 : Int32)).toUInt32 &&& Int32.toUInt32 31)).toInt32) &&& (1 : Int32)) = (1 : Int32) then (b_X5_playBoth_100 (b_X5_playBoth_60 n) v1 v2 v3 v4 v5 v6 v7 (1 : Int32) σ) else (b_X5_playBoth_100 (b_X5_playBoth_60 n) v1 v2 v3 v4 v5 v6 v7 (0 : Int32) σ)))))) = some (r, σ') := hf
    intro H locs ls h hl
    have hx := B.1
    have hb := B.2.1
    refine lv_iload hx hb dX5_playBoth_60 (lv_at hl 5 rfl) ?_
    refine lv_aload_n hx hb dX5_playBoth_62 rfl (lv_at hl 0 rfl) ?_
    refine g_get B h 44 (by decide) (C := RX5) (T := TX5) (N := 21) (M_row _) rfl hin_X5 13 (by decide) hw842 rfl rfl dX5_playBoth_63 ?_
    refine lv_iload_n hx hb dX5_playBoth_66 rfl (lv_at hl 1 rfl) ?_
    obtain ⟨c19, hf⟩ := chk_some hf
    refine g_iald B h 58 (by decide) (n := 3) (fun _ => rfl) (inb_in c19) dX5_playBoth_67 ?_
    refine lv_icmp_lt (tgt := 82) hx hb dX5_playBoth_68 (by decide) (fun c20 => ?_) (fun c20 => ?_)
    · rw [if_pos c20] at hf
      refine lv_iload_n hx hb dX5_playBoth_82 rfl (lv_at hl 3 rfl) ?_
      refine lv_iload hx hb dX5_playBoth_83 (lv_at hl 7 rfl) ?_
      refine lv_bipush (v := (32 : Int32)) hx hb dX5_playBoth_85 (by decide) ?_
      refine lv_irem hx hb dX5_playBoth_87 (by decide) ?_
      refine lv_iushr (v := ((v3.toUInt32 >>> ((v7 - v7 / (32 : Int32) * (32 : Int32)).toUInt32 &&& Int32.toUInt32 31)).toInt32)) hx hb dX5_playBoth_88 rfl ?_
      refine lv_iconst (v := (1 : Int32)) hx hb dX5_playBoth_89 (by decide) ?_
      refine lv_iand hx hb dX5_playBoth_90 ?_
      refine lv_iconst (v := (1 : Int32)) hx hb dX5_playBoth_91 (by decide) ?_
      refine lv_icmp_ne (tgt := 99) hx hb dX5_playBoth_92 (by decide) (fun c21 => ?_) (fun c21 => ?_)
      · rw [if_neg c21] at hf
        refine lv_iconst (v := (0 : Int32)) hx hb dX5_playBoth_99 (by decide) ?_
        exact k_X5_playBoth_100 B hr ih _ _ _ _ _ _ _ _ _ hf _ _ _ h (lv_sub hl [0, 1, 2, 3, 4, 5, 6, 7] rfl)
      · rw [if_pos c21] at hf
        refine lv_iconst (v := (1 : Int32)) hx hb dX5_playBoth_95 (by decide) ?_
        refine lv_goto (tgt := 100) hx hb dX5_playBoth_96 (by decide) ?_
        exact k_X5_playBoth_100 B hr ih _ _ _ _ _ _ _ _ _ hf _ _ _ h (lv_sub hl [0, 1, 2, 3, 4, 5, 6, 7] rfl)
    · rw [if_neg c20] at hf
      refine lv_iload hx hb dX5_playBoth_71 (lv_at hl 6 rfl) ?_
      refine lv_aload_n hx hb dX5_playBoth_73 rfl (lv_at hl 0 rfl) ?_
      refine g_get B h 44 (by decide) (C := RX5) (T := TX5) (N := 21) (M_row _) rfl hin_X5 13 (by decide) hw842 rfl rfl dX5_playBoth_74 ?_
      refine lv_iload_n hx hb dX5_playBoth_77 rfl (lv_at hl 2 rfl) ?_
      obtain ⟨c22, hf⟩ := chk_some hf
      refine g_iald B h 58 (by decide) (n := 3) (fun _ => rfl) (inb_in c22) dX5_playBoth_78 ?_
      refine lv_icmp_ge (tgt := 202) hx hb dX5_playBoth_79 (by decide) (fun c23 => ?_) (fun c23 => ?_)
      · rw [if_pos c23] at hf
        refine lv_aload_n hx hb dX5_playBoth_202 rfl (lv_at hl 0 rfl) ?_
        refine g_get B h 44 (by decide) (C := RX5) (T := TX5) (N := 21) (M_row _) rfl hin_X5 2 (by decide) hw831 rfl rfl dX5_playBoth_203 ?_
        refine lv_iload hx hb dX5_playBoth_206 (lv_at hl 4 rfl) ?_
        obtain ⟨c24, hf⟩ := chk_some hf
        refine g_iald B h 47 (by decide) (n := 3) (fun _ => rfl) (inb_in c24) dX5_playBoth_208 ?_
        cases hf
        exact sE_i B hr h dX5_playBoth_209
      · rw [if_neg c23] at hf
        refine lv_iload_n hx hb dX5_playBoth_82 rfl (lv_at hl 3 rfl) ?_
        refine lv_iload hx hb dX5_playBoth_83 (lv_at hl 7 rfl) ?_
        refine lv_bipush (v := (32 : Int32)) hx hb dX5_playBoth_85 (by decide) ?_
        refine lv_irem hx hb dX5_playBoth_87 (by decide) ?_
        refine lv_iushr (v := ((v3.toUInt32 >>> ((v7 - v7 / (32 : Int32) * (32 : Int32)).toUInt32 &&& Int32.toUInt32 31)).toInt32)) hx hb dX5_playBoth_88 rfl ?_
        refine lv_iconst (v := (1 : Int32)) hx hb dX5_playBoth_89 (by decide) ?_
        refine lv_iand hx hb dX5_playBoth_90 ?_
        refine lv_iconst (v := (1 : Int32)) hx hb dX5_playBoth_91 (by decide) ?_
        refine lv_icmp_ne (tgt := 99) hx hb dX5_playBoth_92 (by decide) (fun c25 => ?_) (fun c25 => ?_)
        · rw [if_neg c25] at hf
          refine lv_iconst (v := (0 : Int32)) hx hb dX5_playBoth_99 (by decide) ?_
          exact k_X5_playBoth_100 B hr ih _ _ _ _ _ _ _ _ _ hf _ _ _ h (lv_sub hl [0, 1, 2, 3, 4, 5, 6, 7] rfl)
        · rw [if_pos c25] at hf
          refine lv_iconst (v := (1 : Int32)) hx hb dX5_playBoth_95 (by decide) ?_
          refine lv_goto (tgt := 100) hx hb dX5_playBoth_96 (by decide) ?_
          exact k_X5_playBoth_100 B hr ih _ _ _ _ _ _ _ _ _ hf _ _ _ h (lv_sub hl [0, 1, 2, 3, 4, 5, 6, 7] rfl)
set_option maxHeartbeats 4000000 in
set_option maxRecDepth 100000 in
theorem k_X5_playBoth_0 {p : Program} {l : Launch} {e : Env} {s : State} {m : MethodId} {args : Array Value} {below : List Frame} {meth : Method} {c : Code} {D : va_G} {cy : Nat → ClassId} {ad : Nat → Nat} {X : sX} {r : Int32} {σ' : sM} (B : sB p l s m meth c args cX5_playBoth 10 RX5 D cy ad) (hr : meth.sig.returnType = (some .int)) (v1 : Int32) (v2 : Int32) (v3 : Int32) (v4 : Int32) (σ : sM) (hf : f_X5_playBoth v1 v2 v3 v4 σ = some (r, σ')) : sGo p l e { frames := 4, cells := 0, slots := 0, locals := 95 } s m args below meth c D cy ad X 10 (sQ below args s 0 0 D cy ad (.inr (some (.int r))) X σ') σ 0 [(0, .ref (ad 44)), (1, .int v1), (2, .int v2), (3, .int v3), (4, .int v4)] [] := by
  replace hf : (rthn (f_X5_isHistory v1 σ) (fun vr1 => if vr1 = 0 then (wthn (f_X5_refused (1 : Int32) σ) (fun vr3 σ3 => if vr3 = 0 then (b_X5_playBoth_60 FU v1 v2 v3 v4 (0 : Int32) (0 : Int32) (0 : Int32) σ3) else (some ((0 : Int32), σ3)))) else (rthn (f_X5_isHistory v2 σ) (fun vr5 => if vr5 = 0 then (wthn (f_X5_refused (1 : Int32) σ) (fun vr7 σ7 => if vr7 = 0 then (b_X5_playBoth_60 FU v1 v2 v3 v4 (0 : Int32) (0 : Int32) (0 : Int32) σ7) else (some ((0 : Int32), σ7)))) else (rthn (f_X5_isMap v4 σ) (fun vr9 => if vr9 = 0 then (wthn (f_X5_refused (1 : Int32) σ) (fun vr17 σ17 => if vr17 = 0 then (b_X5_playBoth_60 FU v1 v2 v3 v4 (0 : Int32) (0 : Int32) (0 : Int32) σ17) else (some ((0 : Int32), σ17)))) else (wthn (f_X5_isTooMuch v1 v2 v4 σ) (fun vr11 σ11 => if vr11 = 0 then (wthn (f_X5_refused (0 : Int32) σ11) (fun vr13 σ13 => if vr13 = 0 then (b_X5_playBoth_60 FU v1 v2 v3 v4 (0 : Int32) (0 : Int32) (0 : Int32) σ13) else (some ((0 : Int32), σ13)))) else (wthn (f_X5_refused (2 : Int32) σ11) (fun vr15 σ15 => if vr15 = 0 then (b_X5_playBoth_60 FU v1 v2 v3 v4 (0 : Int32) (0 : Int32) (0 : Int32) σ15) else (some ((0 : Int32), σ15)))))))))))) = some (r, σ') := hf
  intro H locs ls h hl
  have hx := B.1
  have hb := B.2.1
  refine lv_aload_n hx hb dX5_playBoth_0 rfl (lv_at hl 0 rfl) ?_
  refine lv_iload_n hx hb dX5_playBoth_1 rfl (lv_at hl 1 rfl) ?_
  obtain ⟨vr1, hq1, hf⟩ := rthn_some hf
  refine sRetC1 (g_runS B h (ok_X5_isHistory B.2.2.2.2.2.2.2.2 B.2.2.2.2.2.2.1 _ _ v1 hq1) cw_X5_136 ⟨Nat.le_of_ble_eq_true rfl, Nat.le_of_ble_eq_true rfl⟩ rfl hl.1.symm rfl (Nat.le_of_ble_eq_true rfl) dX5_playBoth_2 ⟨Nat.zero_le _, Nat.zero_le _⟩) h (fun H locs h => ?_)
  refine lv_if_eq (tgt := 23) hx hb dX5_playBoth_5 (by decide) (fun c2 => ?_) (fun c2 => ?_)
  · rw [if_pos c2] at hf
    refine lv_iconst (v := (1 : Int32)) hx hb dX5_playBoth_23 (by decide) ?_
    refine lv_goto (tgt := 43) hx hb dX5_playBoth_24 (by decide) ?_
    obtain ⟨vr3, σ3, hq3, hf⟩ := wthn_some hf
    refine sRetC1 (g_runV (k := 44) (T := TX5) (N := 21) B h (ok_X5_refused B.2.2.2.2.2.2.2.2 B.2.2.2.2.2.2.1 _ _ (1 : Int32) hq3) cw_X5_95 ⟨Nat.le_of_ble_eq_true rfl, Nat.le_of_ble_eq_true rfl⟩ (by decide) (M_row _) rfl rfl hl.1.symm rfl (Nat.le_of_ble_eq_true rfl) dX5_playBoth_43 ⟨Nat.zero_le _, Nat.zero_le _⟩) h (fun H locs h => ?_)
    refine lv_if_eq (tgt := 51) hx hb dX5_playBoth_46 (by decide) (fun c4 => ?_) (fun c4 => ?_)
    · rw [if_pos c4] at hf
      refine lv_iconst (v := (0 : Int32)) hx hb dX5_playBoth_51 (by decide) ?_
      refine lv_istore (lv' := [(5, .int (0 : Int32)), (0, .ref (ad 44)), (1, .int v1), (2, .int v2), (3, .int v3), (4, .int v4)]) hx hb dX5_playBoth_52 hl (by decide) rfl (fun ls hl => ?_)
      refine lv_iconst (v := (0 : Int32)) hx hb dX5_playBoth_54 (by decide) ?_
      refine lv_istore (lv' := [(6, .int (0 : Int32)), (5, .int (0 : Int32)), (0, .ref (ad 44)), (1, .int v1), (2, .int v2), (3, .int v3), (4, .int v4)]) hx hb dX5_playBoth_55 hl (by decide) rfl (fun ls hl => ?_)
      refine lv_iconst (v := (0 : Int32)) hx hb dX5_playBoth_57 (by decide) ?_
      refine lv_istore (lv' := [(7, .int (0 : Int32)), (6, .int (0 : Int32)), (5, .int (0 : Int32)), (0, .ref (ad 44)), (1, .int v1), (2, .int v2), (3, .int v3), (4, .int v4)]) hx hb dX5_playBoth_58 hl (by decide) rfl (fun ls hl => ?_)
      exact k_X5_playBoth_60 B hr  _ _ _ _ _ _ _ _ _ hf _ _ _ h (lv_sub hl [3, 4, 5, 6, 7, 2, 1, 0] rfl)
    · rw [if_neg c4] at hf
      refine lv_iconst (v := (0 : Int32)) hx hb dX5_playBoth_49 (by decide) ?_
      cases hf
      exact sE_i B hr h dX5_playBoth_50
  · rw [if_neg c2] at hf
    refine lv_iload_n hx hb dX5_playBoth_8 rfl (lv_at hl 2 rfl) ?_
    obtain ⟨vr5, hq5, hf⟩ := rthn_some hf
    refine sRetC1 (g_runS B h (ok_X5_isHistory B.2.2.2.2.2.2.2.2 B.2.2.2.2.2.2.1 _ _ v2 hq5) cw_X5_136 ⟨Nat.le_of_ble_eq_true rfl, Nat.le_of_ble_eq_true rfl⟩ rfl hl.1.symm rfl (Nat.le_of_ble_eq_true rfl) dX5_playBoth_9 ⟨Nat.zero_le _, Nat.zero_le _⟩) h (fun H locs h => ?_)
    refine lv_if_eq (tgt := 23) hx hb dX5_playBoth_12 (by decide) (fun c6 => ?_) (fun c6 => ?_)
    · rw [if_pos c6] at hf
      refine lv_iconst (v := (1 : Int32)) hx hb dX5_playBoth_23 (by decide) ?_
      refine lv_goto (tgt := 43) hx hb dX5_playBoth_24 (by decide) ?_
      obtain ⟨vr7, σ7, hq7, hf⟩ := wthn_some hf
      refine sRetC1 (g_runV (k := 44) (T := TX5) (N := 21) B h (ok_X5_refused B.2.2.2.2.2.2.2.2 B.2.2.2.2.2.2.1 _ _ (1 : Int32) hq7) cw_X5_95 ⟨Nat.le_of_ble_eq_true rfl, Nat.le_of_ble_eq_true rfl⟩ (by decide) (M_row _) rfl rfl hl.1.symm rfl (Nat.le_of_ble_eq_true rfl) dX5_playBoth_43 ⟨Nat.zero_le _, Nat.zero_le _⟩) h (fun H locs h => ?_)
      refine lv_if_eq (tgt := 51) hx hb dX5_playBoth_46 (by decide) (fun c8 => ?_) (fun c8 => ?_)
      · rw [if_pos c8] at hf
        refine lv_iconst (v := (0 : Int32)) hx hb dX5_playBoth_51 (by decide) ?_
        refine lv_istore (lv' := [(5, .int (0 : Int32)), (0, .ref (ad 44)), (1, .int v1), (2, .int v2), (3, .int v3), (4, .int v4)]) hx hb dX5_playBoth_52 hl (by decide) rfl (fun ls hl => ?_)
        refine lv_iconst (v := (0 : Int32)) hx hb dX5_playBoth_54 (by decide) ?_
        refine lv_istore (lv' := [(6, .int (0 : Int32)), (5, .int (0 : Int32)), (0, .ref (ad 44)), (1, .int v1), (2, .int v2), (3, .int v3), (4, .int v4)]) hx hb dX5_playBoth_55 hl (by decide) rfl (fun ls hl => ?_)
        refine lv_iconst (v := (0 : Int32)) hx hb dX5_playBoth_57 (by decide) ?_
        refine lv_istore (lv' := [(7, .int (0 : Int32)), (6, .int (0 : Int32)), (5, .int (0 : Int32)), (0, .ref (ad 44)), (1, .int v1), (2, .int v2), (3, .int v3), (4, .int v4)]) hx hb dX5_playBoth_58 hl (by decide) rfl (fun ls hl => ?_)
        exact k_X5_playBoth_60 B hr  _ _ _ _ _ _ _ _ _ hf _ _ _ h (lv_sub hl [3, 4, 5, 6, 7, 2, 1, 0] rfl)
      · rw [if_neg c8] at hf
        refine lv_iconst (v := (0 : Int32)) hx hb dX5_playBoth_49 (by decide) ?_
        cases hf
        exact sE_i B hr h dX5_playBoth_50
    · rw [if_neg c6] at hf
      refine lv_iload hx hb dX5_playBoth_15 (lv_at hl 4 rfl) ?_
      obtain ⟨vr9, hq9, hf⟩ := rthn_some hf
      refine sRetC1 (g_runS B h (ok_X5_isMap B.2.2.2.2.2.2.2.2 B.2.2.2.2.2.2.1 _ _ v4 hq9) cw_X5_87 ⟨Nat.le_of_ble_eq_true rfl, Nat.le_of_ble_eq_true rfl⟩ rfl hl.1.symm rfl (Nat.le_of_ble_eq_true rfl) dX5_playBoth_17 ⟨Nat.zero_le _, Nat.zero_le _⟩) h (fun H locs h => ?_)
      refine lv_if_ne (tgt := 27) hx hb dX5_playBoth_20 (by decide) (fun c10 => ?_) (fun c10 => ?_)
      · rw [if_neg c10] at hf
        refine lv_aload_n hx hb dX5_playBoth_27 rfl (lv_at hl 0 rfl) ?_
        refine lv_iload_n hx hb dX5_playBoth_28 rfl (lv_at hl 1 rfl) ?_
        refine lv_iload_n hx hb dX5_playBoth_29 rfl (lv_at hl 2 rfl) ?_
        refine lv_iload hx hb dX5_playBoth_30 (lv_at hl 4 rfl) ?_
        obtain ⟨vr11, σ11, hq11, hf⟩ := wthn_some hf
        refine sRetC1 (g_runV (k := 44) (T := TX5) (N := 21) B h (ok_X5_isTooMuch B.2.2.2.2.2.2.2.2 B.2.2.2.2.2.2.1 _ _ v1 v2 v4 hq11) cw_X5_149 ⟨Nat.le_of_ble_eq_true rfl, Nat.le_of_ble_eq_true rfl⟩ (by decide) (M_row _) rfl rfl hl.1.symm rfl (Nat.le_of_ble_eq_true rfl) dX5_playBoth_32 ⟨Nat.zero_le _, Nat.zero_le _⟩) h (fun H locs h => ?_)
        refine lv_if_eq (tgt := 42) hx hb dX5_playBoth_35 (by decide) (fun c12 => ?_) (fun c12 => ?_)
        · rw [if_pos c12] at hf
          refine lv_iconst (v := (0 : Int32)) hx hb dX5_playBoth_42 (by decide) ?_
          obtain ⟨vr13, σ13, hq13, hf⟩ := wthn_some hf
          refine sRetC1 (g_runV (k := 44) (T := TX5) (N := 21) B h (ok_X5_refused B.2.2.2.2.2.2.2.2 B.2.2.2.2.2.2.1 _ _ (0 : Int32) hq13) cw_X5_95 ⟨Nat.le_of_ble_eq_true rfl, Nat.le_of_ble_eq_true rfl⟩ (by decide) (M_row _) rfl rfl hl.1.symm rfl (Nat.le_of_ble_eq_true rfl) dX5_playBoth_43 ⟨Nat.zero_le _, Nat.zero_le _⟩) h (fun H locs h => ?_)
          refine lv_if_eq (tgt := 51) hx hb dX5_playBoth_46 (by decide) (fun c14 => ?_) (fun c14 => ?_)
          · rw [if_pos c14] at hf
            refine lv_iconst (v := (0 : Int32)) hx hb dX5_playBoth_51 (by decide) ?_
            refine lv_istore (lv' := [(5, .int (0 : Int32)), (0, .ref (ad 44)), (1, .int v1), (2, .int v2), (3, .int v3), (4, .int v4)]) hx hb dX5_playBoth_52 hl (by decide) rfl (fun ls hl => ?_)
            refine lv_iconst (v := (0 : Int32)) hx hb dX5_playBoth_54 (by decide) ?_
            refine lv_istore (lv' := [(6, .int (0 : Int32)), (5, .int (0 : Int32)), (0, .ref (ad 44)), (1, .int v1), (2, .int v2), (3, .int v3), (4, .int v4)]) hx hb dX5_playBoth_55 hl (by decide) rfl (fun ls hl => ?_)
            refine lv_iconst (v := (0 : Int32)) hx hb dX5_playBoth_57 (by decide) ?_
            refine lv_istore (lv' := [(7, .int (0 : Int32)), (6, .int (0 : Int32)), (5, .int (0 : Int32)), (0, .ref (ad 44)), (1, .int v1), (2, .int v2), (3, .int v3), (4, .int v4)]) hx hb dX5_playBoth_58 hl (by decide) rfl (fun ls hl => ?_)
            exact k_X5_playBoth_60 B hr  _ _ _ _ _ _ _ _ _ hf _ _ _ h (lv_sub hl [3, 4, 5, 6, 7, 2, 1, 0] rfl)
          · rw [if_neg c14] at hf
            refine lv_iconst (v := (0 : Int32)) hx hb dX5_playBoth_49 (by decide) ?_
            cases hf
            exact sE_i B hr h dX5_playBoth_50
        · rw [if_neg c12] at hf
          refine lv_iconst (v := (2 : Int32)) hx hb dX5_playBoth_38 (by decide) ?_
          refine lv_goto (tgt := 43) hx hb dX5_playBoth_39 (by decide) ?_
          obtain ⟨vr15, σ15, hq15, hf⟩ := wthn_some hf
          refine sRetC1 (g_runV (k := 44) (T := TX5) (N := 21) B h (ok_X5_refused B.2.2.2.2.2.2.2.2 B.2.2.2.2.2.2.1 _ _ (2 : Int32) hq15) cw_X5_95 ⟨Nat.le_of_ble_eq_true rfl, Nat.le_of_ble_eq_true rfl⟩ (by decide) (M_row _) rfl rfl hl.1.symm rfl (Nat.le_of_ble_eq_true rfl) dX5_playBoth_43 ⟨Nat.zero_le _, Nat.zero_le _⟩) h (fun H locs h => ?_)
          refine lv_if_eq (tgt := 51) hx hb dX5_playBoth_46 (by decide) (fun c16 => ?_) (fun c16 => ?_)
          · rw [if_pos c16] at hf
            refine lv_iconst (v := (0 : Int32)) hx hb dX5_playBoth_51 (by decide) ?_
            refine lv_istore (lv' := [(5, .int (0 : Int32)), (0, .ref (ad 44)), (1, .int v1), (2, .int v2), (3, .int v3), (4, .int v4)]) hx hb dX5_playBoth_52 hl (by decide) rfl (fun ls hl => ?_)
            refine lv_iconst (v := (0 : Int32)) hx hb dX5_playBoth_54 (by decide) ?_
            refine lv_istore (lv' := [(6, .int (0 : Int32)), (5, .int (0 : Int32)), (0, .ref (ad 44)), (1, .int v1), (2, .int v2), (3, .int v3), (4, .int v4)]) hx hb dX5_playBoth_55 hl (by decide) rfl (fun ls hl => ?_)
            refine lv_iconst (v := (0 : Int32)) hx hb dX5_playBoth_57 (by decide) ?_
            refine lv_istore (lv' := [(7, .int (0 : Int32)), (6, .int (0 : Int32)), (5, .int (0 : Int32)), (0, .ref (ad 44)), (1, .int v1), (2, .int v2), (3, .int v3), (4, .int v4)]) hx hb dX5_playBoth_58 hl (by decide) rfl (fun ls hl => ?_)
            exact k_X5_playBoth_60 B hr  _ _ _ _ _ _ _ _ _ hf _ _ _ h (lv_sub hl [3, 4, 5, 6, 7, 2, 1, 0] rfl)
          · rw [if_neg c16] at hf
            refine lv_iconst (v := (0 : Int32)) hx hb dX5_playBoth_49 (by decide) ?_
            cases hf
            exact sE_i B hr h dX5_playBoth_50
      · rw [if_pos c10] at hf
        refine lv_iconst (v := (1 : Int32)) hx hb dX5_playBoth_23 (by decide) ?_
        refine lv_goto (tgt := 43) hx hb dX5_playBoth_24 (by decide) ?_
        obtain ⟨vr17, σ17, hq17, hf⟩ := wthn_some hf
        refine sRetC1 (g_runV (k := 44) (T := TX5) (N := 21) B h (ok_X5_refused B.2.2.2.2.2.2.2.2 B.2.2.2.2.2.2.1 _ _ (1 : Int32) hq17) cw_X5_95 ⟨Nat.le_of_ble_eq_true rfl, Nat.le_of_ble_eq_true rfl⟩ (by decide) (M_row _) rfl rfl hl.1.symm rfl (Nat.le_of_ble_eq_true rfl) dX5_playBoth_43 ⟨Nat.zero_le _, Nat.zero_le _⟩) h (fun H locs h => ?_)
        refine lv_if_eq (tgt := 51) hx hb dX5_playBoth_46 (by decide) (fun c18 => ?_) (fun c18 => ?_)
        · rw [if_pos c18] at hf
          refine lv_iconst (v := (0 : Int32)) hx hb dX5_playBoth_51 (by decide) ?_
          refine lv_istore (lv' := [(5, .int (0 : Int32)), (0, .ref (ad 44)), (1, .int v1), (2, .int v2), (3, .int v3), (4, .int v4)]) hx hb dX5_playBoth_52 hl (by decide) rfl (fun ls hl => ?_)
          refine lv_iconst (v := (0 : Int32)) hx hb dX5_playBoth_54 (by decide) ?_
          refine lv_istore (lv' := [(6, .int (0 : Int32)), (5, .int (0 : Int32)), (0, .ref (ad 44)), (1, .int v1), (2, .int v2), (3, .int v3), (4, .int v4)]) hx hb dX5_playBoth_55 hl (by decide) rfl (fun ls hl => ?_)
          refine lv_iconst (v := (0 : Int32)) hx hb dX5_playBoth_57 (by decide) ?_
          refine lv_istore (lv' := [(7, .int (0 : Int32)), (6, .int (0 : Int32)), (5, .int (0 : Int32)), (0, .ref (ad 44)), (1, .int v1), (2, .int v2), (3, .int v3), (4, .int v4)]) hx hb dX5_playBoth_58 hl (by decide) rfl (fun ls hl => ?_)
          exact k_X5_playBoth_60 B hr  _ _ _ _ _ _ _ _ _ hf _ _ _ h (lv_sub hl [3, 4, 5, 6, 7, 2, 1, 0] rfl)
        · rw [if_neg c18] at hf
          refine lv_iconst (v := (0 : Int32)) hx hb dX5_playBoth_49 (by decide) ?_
          cases hf
          exact sE_i B hr h dX5_playBoth_50
set_option maxRecDepth 100000 in
theorem ok_X5_playBoth {l : Launch} (hl0 : l.stackTraces = false) {D : va_G} {cy : Nat → ClassId} {ad : Nat → Nat} (hap : sAp ad) (X : sX) (σ : sM) (v1 : Int32) (v2 : Int32) (v3 : Int32) (v4 : Int32) {r : Int32} {σ' : sM} (hf : f_X5_playBoth v1 v2 v3 v4 σ = some (r, σ')) : sMet l yX5_playBoth (sWs yX5_playBoth cX5_playBoth 10 (some .int)) 4 95 0 0 D cy ad X σ [.ref (ad 44), .int v1, .int v2, .int v3, .int v4] (.inr (some (.int r))) X σ' := by
  refine sMet_of (by decide +kernel) (Nat.le_of_ble_eq_true rfl) hap hl0 ?_
  intro p e s m args below meth c ls B hr htab hl h
  exact k_X5_playBoth_0 B hr _ _ _ _ _  hf _ _ _ h hl
set_option maxHeartbeats 4000000 in
set_option maxRecDepth 100000 in
theorem k_X5_poll_26 {p : Program} {l : Launch} {e : Env} {s : State} {m : MethodId} {args : Array Value} {below : List Frame} {meth : Method} {c : Code} {D : va_G} {cy : Nat → ClassId} {ad : Nat → Nat} {X : sX} {r : Int32} {σ' : sM} (B : sB p l s m meth c args cX5_poll 3 RX5 D cy ad) (hr : meth.sig.returnType = (some .int)) (v1 : Int32) (v2 : Int32) (vs1 : Int32) (σ : sM) (hf : b_X5_poll_26 v1 v2 vs1 σ = some (r, σ')) : sGo p l e { frames := 2, cells := 0, slots := 0, locals := 46 } s m args below meth c D cy ad X 3 (sQ below args s 0 0 D cy ad (.inr (some (.int r))) X σ') σ 26 [(0, .ref (ad 44)), (1, .int v1), (2, .int v2)] [.int vs1, .ref (ad 44)] := by
  replace hf : (wthn (f_X5_refused vs1 σ) (fun vr5 σ5 => if vr5 = 0 then (if v2 = 0 then (wthn (f_X5_pollsAt v1 (0 : Int32) σ5) (fun vr8 σ8 => some (vr8, σ8))) else (chk (inb v1 3) (wthn (f_X5_pollsAt v1 ((σ5 47 (v1).toNatClampNeg) - (1 : Int32)) σ5) (fun vr10 σ10 => some (vr10, σ10))))) else (some ((0 : Int32), σ5)))) = some (r, σ') := hf
  intro H locs ls h hl
  have hx := B.1
  have hb := B.2.1
  obtain ⟨vr5, σ5, hq5, hf⟩ := wthn_some hf
  refine sRetC1 (g_runV (k := 44) (T := TX5) (N := 21) B h (ok_X5_refused B.2.2.2.2.2.2.2.2 B.2.2.2.2.2.2.1 _ _ vs1 hq5) cw_X5_95 ⟨Nat.le_of_ble_eq_true rfl, Nat.le_of_ble_eq_true rfl⟩ (by decide) (M_row _) rfl rfl hl.1.symm rfl (Nat.le_of_ble_eq_true rfl) dX5_poll_26 ⟨Nat.zero_le _, Nat.zero_le _⟩) h (fun H locs h => ?_)
  refine lv_if_eq (tgt := 34) hx hb dX5_poll_29 (by decide) (fun c6 => ?_) (fun c6 => ?_)
  · rw [if_pos c6] at hf
    refine lv_aload_n hx hb dX5_poll_34 rfl (lv_at hl 0 rfl) ?_
    refine lv_iload_n hx hb dX5_poll_35 rfl (lv_at hl 1 rfl) ?_
    refine lv_iload_n hx hb dX5_poll_36 rfl (lv_at hl 2 rfl) ?_
    refine lv_if_eq (tgt := 51) hx hb dX5_poll_37 (by decide) (fun c7 => ?_) (fun c7 => ?_)
    · rw [if_pos c7] at hf
      refine lv_iconst (v := (0 : Int32)) hx hb dX5_poll_51 (by decide) ?_
      obtain ⟨vr8, σ8, hq8, hf⟩ := wthn_some hf
      refine sRetC1 (g_runV (k := 44) (T := TX5) (N := 21) B h (ok_X5_pollsAt B.2.2.2.2.2.2.2.2 B.2.2.2.2.2.2.1 _ _ v1 (0 : Int32) hq8) cw_X5_110 ⟨Nat.le_of_ble_eq_true rfl, Nat.le_of_ble_eq_true rfl⟩ (by decide) (M_row _) rfl rfl hl.1.symm rfl (Nat.le_of_ble_eq_true rfl) dX5_poll_52 ⟨Nat.zero_le _, Nat.zero_le _⟩) h (fun H locs h => ?_)
      cases hf
      exact sE_i B hr h dX5_poll_55
    · rw [if_neg c7] at hf
      refine lv_aload_n hx hb dX5_poll_40 rfl (lv_at hl 0 rfl) ?_
      refine g_get B h 44 (by decide) (C := RX5) (T := TX5) (N := 21) (M_row _) rfl hin_X5 2 (by decide) hw831 rfl rfl dX5_poll_41 ?_
      refine lv_iload_n hx hb dX5_poll_44 rfl (lv_at hl 1 rfl) ?_
      obtain ⟨c9, hf⟩ := chk_some hf
      refine g_iald B h 47 (by decide) (n := 3) (fun _ => rfl) (inb_in c9) dX5_poll_45 ?_
      refine lv_iconst (v := (1 : Int32)) hx hb dX5_poll_46 (by decide) ?_
      refine lv_isub hx hb dX5_poll_47 ?_
      refine lv_goto (tgt := 52) hx hb dX5_poll_48 (by decide) ?_
      obtain ⟨vr10, σ10, hq10, hf⟩ := wthn_some hf
      refine sRetC1 (g_runV (k := 44) (T := TX5) (N := 21) B h (ok_X5_pollsAt B.2.2.2.2.2.2.2.2 B.2.2.2.2.2.2.1 _ _ v1 ((σ5 47 (v1).toNatClampNeg) - (1 : Int32)) hq10) cw_X5_110 ⟨Nat.le_of_ble_eq_true rfl, Nat.le_of_ble_eq_true rfl⟩ (by decide) (M_row _) rfl rfl hl.1.symm rfl (Nat.le_of_ble_eq_true rfl) dX5_poll_52 ⟨Nat.zero_le _, Nat.zero_le _⟩) h (fun H locs h => ?_)
      cases hf
      exact sE_i B hr h dX5_poll_55
  · rw [if_neg c6] at hf
    refine lv_iconst (v := (0 : Int32)) hx hb dX5_poll_32 (by decide) ?_
    cases hf
    exact sE_i B hr h dX5_poll_33
set_option maxHeartbeats 4000000 in
set_option maxRecDepth 100000 in
theorem k_X5_poll_0 {p : Program} {l : Launch} {e : Env} {s : State} {m : MethodId} {args : Array Value} {below : List Frame} {meth : Method} {c : Code} {D : va_G} {cy : Nat → ClassId} {ad : Nat → Nat} {X : sX} {r : Int32} {σ' : sM} (B : sB p l s m meth c args cX5_poll 3 RX5 D cy ad) (hr : meth.sig.returnType = (some .int)) (v1 : Int32) (v2 : Int32) (σ : sM) (hf : f_X5_poll v1 v2 σ = some (r, σ')) : sGo p l e { frames := 2, cells := 0, slots := 0, locals := 46 } s m args below meth c D cy ad X 3 (sQ below args s 0 0 D cy ad (.inr (some (.int r))) X σ') σ 0 [(0, .ref (ad 44)), (1, .int v1), (2, .int v2)] [] := by
  replace hf : (rthn (f_X5_isMap v1 σ) (fun vr1 => if vr1 = 0 then (b_X5_poll_26 v1 v2 (1 : Int32) σ) else (chk (inb v1 3) (if (σ 47 (v1).toNatClampNeg) = 0 then (b_X5_poll_26 v1 v2 (2 : Int32) σ) else (b_X5_poll_26 v1 v2 (0 : Int32) σ))))) = some (r, σ') := hf
  intro H locs ls h hl
  have hx := B.1
  have hb := B.2.1
  refine lv_aload_n hx hb dX5_poll_0 rfl (lv_at hl 0 rfl) ?_
  refine lv_iload_n hx hb dX5_poll_1 rfl (lv_at hl 1 rfl) ?_
  obtain ⟨vr1, hq1, hf⟩ := rthn_some hf
  refine sRetC1 (g_runS B h (ok_X5_isMap B.2.2.2.2.2.2.2.2 B.2.2.2.2.2.2.1 _ _ v1 hq1) cw_X5_87 ⟨Nat.le_of_ble_eq_true rfl, Nat.le_of_ble_eq_true rfl⟩ rfl hl.1.symm rfl (Nat.le_of_ble_eq_true rfl) dX5_poll_2 ⟨Nat.zero_le _, Nat.zero_le _⟩) h (fun H locs h => ?_)
  refine lv_if_ne (tgt := 12) hx hb dX5_poll_5 (by decide) (fun c2 => ?_) (fun c2 => ?_)
  · rw [if_neg c2] at hf
    refine lv_aload_n hx hb dX5_poll_12 rfl (lv_at hl 0 rfl) ?_
    refine g_get B h 44 (by decide) (C := RX5) (T := TX5) (N := 21) (M_row _) rfl hin_X5 2 (by decide) hw831 rfl rfl dX5_poll_13 ?_
    refine lv_iload_n hx hb dX5_poll_16 rfl (lv_at hl 1 rfl) ?_
    obtain ⟨c3, hf⟩ := chk_some hf
    refine g_iald B h 47 (by decide) (n := 3) (fun _ => rfl) (inb_in c3) dX5_poll_17 ?_
    refine lv_if_ne (tgt := 25) hx hb dX5_poll_18 (by decide) (fun c4 => ?_) (fun c4 => ?_)
    · rw [if_neg c4] at hf
      refine lv_iconst (v := (0 : Int32)) hx hb dX5_poll_25 (by decide) ?_
      exact k_X5_poll_26 B hr  _ _ _ _ hf _ _ _ h (lv_sub hl [0, 1, 2] rfl)
    · rw [if_pos c4] at hf
      refine lv_iconst (v := (2 : Int32)) hx hb dX5_poll_21 (by decide) ?_
      refine lv_goto (tgt := 26) hx hb dX5_poll_22 (by decide) ?_
      exact k_X5_poll_26 B hr  _ _ _ _ hf _ _ _ h (lv_sub hl [0, 1, 2] rfl)
  · rw [if_pos c2] at hf
    refine lv_iconst (v := (1 : Int32)) hx hb dX5_poll_8 (by decide) ?_
    refine lv_goto (tgt := 26) hx hb dX5_poll_9 (by decide) ?_
    exact k_X5_poll_26 B hr  _ _ _ _ hf _ _ _ h (lv_sub hl [0, 1, 2] rfl)
set_option maxRecDepth 100000 in
theorem ok_X5_poll {l : Launch} (hl0 : l.stackTraces = false) {D : va_G} {cy : Nat → ClassId} {ad : Nat → Nat} (hap : sAp ad) (X : sX) (σ : sM) (v1 : Int32) (v2 : Int32) {r : Int32} {σ' : sM} (hf : f_X5_poll v1 v2 σ = some (r, σ')) : sMet l yX5_poll (sWs yX5_poll cX5_poll 3 (some .int)) 2 46 0 0 D cy ad X σ [.ref (ad 44), .int v1, .int v2] (.inr (some (.int r))) X σ' := by
  refine sMet_of (by decide +kernel) (Nat.le_of_ble_eq_true rfl) hap hl0 ?_
  intro p e s m args below meth c ls B hr htab hl h
  exact k_X5_poll_0 B hr _ _ _  hf _ _ _ h hl
set_option maxHeartbeats 4000000 in
set_option maxRecDepth 100000 in
theorem k_X5_polled_0 {p : Program} {l : Launch} {e : Env} {s : State} {m : MethodId} {args : Array Value} {below : List Frame} {meth : Method} {c : Code} {D : va_G} {cy : Nat → ClassId} {ad : Nat → Nat} {X : sX} {r : Int32} {σ' : sM} (B : sB p l s m meth c args cX5_polled 1 RX5 D cy ad) (hr : meth.sig.returnType = (some .int)) (σ : sM) (hf : f_X5_polled σ = some (r, σ')) : sGo p l e { frames := 1, cells := 0, slots := 0, locals := 21 } s m args below meth c D cy ad X 1 (sQ below args s 0 0 D cy ad (.inr (some (.int r))) X σ') σ 0 [(0, .ref (ad 44))] [] := by
  replace hf : (if (σ 44 18) = 0 then (wthn (f_X5_refused (1 : Int32) σ) (fun vr4 σ4 => if vr4 = 0 then (some ((σ4 44 19), σ4)) else (some ((0 : Int32), σ4)))) else (wthn (f_X5_refused (0 : Int32) σ) (fun vr2 σ2 => if vr2 = 0 then (some ((σ2 44 19), σ2)) else (some ((0 : Int32), σ2))))) = some (r, σ') := hf
  intro H locs ls h hl
  have hx := B.1
  have hb := B.2.1
  refine lv_aload_n hx hb dX5_polled_0 rfl (lv_at hl 0 rfl) ?_
  refine lv_aload_n hx hb dX5_polled_1 rfl (lv_at hl 0 rfl) ?_
  refine g_get B h 44 (by decide) (C := RX5) (T := TX5) (N := 21) (M_row _) rfl hin_X5 18 (by decide) hw847 rfl rfl dX5_polled_2 ?_
  refine lv_if_ne (tgt := 12) hx hb dX5_polled_5 (by decide) (fun c1 => ?_) (fun c1 => ?_)
  · rw [if_neg c1] at hf
    refine lv_iconst (v := (0 : Int32)) hx hb dX5_polled_12 (by decide) ?_
    obtain ⟨vr2, σ2, hq2, hf⟩ := wthn_some hf
    refine sRetC1 (g_runV (k := 44) (T := TX5) (N := 21) B h (ok_X5_refused B.2.2.2.2.2.2.2.2 B.2.2.2.2.2.2.1 _ _ (0 : Int32) hq2) cw_X5_95 ⟨Nat.le_of_ble_eq_true rfl, Nat.le_of_ble_eq_true rfl⟩ (by decide) (M_row _) rfl rfl hl.1.symm rfl (Nat.le_of_ble_eq_true rfl) dX5_polled_13 ⟨Nat.zero_le _, Nat.zero_le _⟩) h (fun H locs h => ?_)
    refine lv_if_eq (tgt := 23) hx hb dX5_polled_16 (by decide) (fun c3 => ?_) (fun c3 => ?_)
    · rw [if_pos c3] at hf
      refine lv_aload_n hx hb dX5_polled_23 rfl (lv_at hl 0 rfl) ?_
      refine g_get B h 44 (by decide) (C := RX5) (T := TX5) (N := 21) (M_row _) rfl hin_X5 19 (by decide) hw848 rfl rfl dX5_polled_24 ?_
      cases hf
      exact sE_i B hr h dX5_polled_27
    · rw [if_neg c3] at hf
      refine lv_iconst (v := (0 : Int32)) hx hb dX5_polled_19 (by decide) ?_
      refine lv_goto (tgt := 27) hx hb dX5_polled_20 (by decide) ?_
      cases hf
      exact sE_i B hr h dX5_polled_27
  · rw [if_pos c1] at hf
    refine lv_iconst (v := (1 : Int32)) hx hb dX5_polled_8 (by decide) ?_
    refine lv_goto (tgt := 13) hx hb dX5_polled_9 (by decide) ?_
    obtain ⟨vr4, σ4, hq4, hf⟩ := wthn_some hf
    refine sRetC1 (g_runV (k := 44) (T := TX5) (N := 21) B h (ok_X5_refused B.2.2.2.2.2.2.2.2 B.2.2.2.2.2.2.1 _ _ (1 : Int32) hq4) cw_X5_95 ⟨Nat.le_of_ble_eq_true rfl, Nat.le_of_ble_eq_true rfl⟩ (by decide) (M_row _) rfl rfl hl.1.symm rfl (Nat.le_of_ble_eq_true rfl) dX5_polled_13 ⟨Nat.zero_le _, Nat.zero_le _⟩) h (fun H locs h => ?_)
    refine lv_if_eq (tgt := 23) hx hb dX5_polled_16 (by decide) (fun c5 => ?_) (fun c5 => ?_)
    · rw [if_pos c5] at hf
      refine lv_aload_n hx hb dX5_polled_23 rfl (lv_at hl 0 rfl) ?_
      refine g_get B h 44 (by decide) (C := RX5) (T := TX5) (N := 21) (M_row _) rfl hin_X5 19 (by decide) hw848 rfl rfl dX5_polled_24 ?_
      cases hf
      exact sE_i B hr h dX5_polled_27
    · rw [if_neg c5] at hf
      refine lv_iconst (v := (0 : Int32)) hx hb dX5_polled_19 (by decide) ?_
      refine lv_goto (tgt := 27) hx hb dX5_polled_20 (by decide) ?_
      cases hf
      exact sE_i B hr h dX5_polled_27
set_option maxRecDepth 100000 in
theorem ok_X5_polled {l : Launch} (hl0 : l.stackTraces = false) {D : va_G} {cy : Nat → ClassId} {ad : Nat → Nat} (hap : sAp ad) (X : sX) (σ : sM) {r : Int32} {σ' : sM} (hf : f_X5_polled σ = some (r, σ')) : sMet l yX5_polled (sWs yX5_polled cX5_polled 1 (some .int)) 1 21 0 0 D cy ad X σ [.ref (ad 44)] (.inr (some (.int r))) X σ' := by
  refine sMet_of (by decide +kernel) (Nat.le_of_ble_eq_true rfl) hap hl0 ?_
  intro p e s m args below meth c ls B hr htab hl h
  exact k_X5_polled_0 B hr  _  hf _ _ _ h hl
set_option maxHeartbeats 4000000 in
set_option maxRecDepth 100000 in
theorem k_X5_put_36 {p : Program} {l : Launch} {e : Env} {s : State} {m : MethodId} {args : Array Value} {below : List Frame} {meth : Method} {c : Code} {D : va_G} {cy : Nat → ClassId} {ad : Nat → Nat} {X : sX} {r : Int32} {σ' : sM} (B : sB p l s m meth c args cX5_put 4 RX5 D cy ad) (hr : meth.sig.returnType = (some .int)) (v1 : Int32) (v2 : Int32) (v3 : Int32) (σ : sM) (hf : b_X5_put_36 v1 v2 v3 σ = some (r, σ')) : sGo p l e { frames := 2, cells := 0, slots := 0, locals := 48 } s m args below meth c D cy ad X 4 (sQ below args s 0 0 D cy ad (.inr (some (.int r))) X σ') σ 36 [(0, .ref (ad 44)), (1, .int v1), (2, .int v2), (3, .int v3)] [.ref (ad 44)] := by
  replace hf : (wthn (f_X5_refused (0 : Int32) σ) (fun vr15 σ15 => if vr15 = 0 then (wthn (f_X5_puts v1 v2 v3 σ15) (fun _ σ17 => chk (inb v1 3) (some ((σ17 47 (v1).toNatClampNeg), σ17)))) else (some ((0 : Int32), σ15)))) = some (r, σ') := hf
  intro H locs ls h hl
  have hx := B.1
  have hb := B.2.1
  refine lv_iconst (v := (0 : Int32)) hx hb dX5_put_36 (by decide) ?_
  obtain ⟨vr15, σ15, hq15, hf⟩ := wthn_some hf
  refine sRetC1 (g_runV (k := 44) (T := TX5) (N := 21) B h (ok_X5_refused B.2.2.2.2.2.2.2.2 B.2.2.2.2.2.2.1 _ _ (0 : Int32) hq15) cw_X5_95 ⟨Nat.le_of_ble_eq_true rfl, Nat.le_of_ble_eq_true rfl⟩ (by decide) (M_row _) rfl rfl hl.1.symm rfl (Nat.le_of_ble_eq_true rfl) dX5_put_37 ⟨Nat.zero_le _, Nat.zero_le _⟩) h (fun H locs h => ?_)
  refine lv_if_eq (tgt := 45) hx hb dX5_put_40 (by decide) (fun c16 => ?_) (fun c16 => ?_)
  · rw [if_pos c16] at hf
    refine lv_aload_n hx hb dX5_put_45 rfl (lv_at hl 0 rfl) ?_
    refine lv_iload_n hx hb dX5_put_46 rfl (lv_at hl 1 rfl) ?_
    refine lv_iload_n hx hb dX5_put_47 rfl (lv_at hl 2 rfl) ?_
    refine lv_iload_n hx hb dX5_put_48 rfl (lv_at hl 3 rfl) ?_
    obtain ⟨vr17, σ17, hq17, hf⟩ := wthn_some hf
    refine sRetC0 (g_runV (k := 44) (T := TX5) (N := 21) B h (ok_X5_puts B.2.2.2.2.2.2.2.2 B.2.2.2.2.2.2.1 _ _ v1 v2 v3 hq17) cw_X5_98 ⟨Nat.le_of_ble_eq_true rfl, Nat.le_of_ble_eq_true rfl⟩ (by decide) (M_row _) rfl rfl hl.1.symm rfl (Nat.le_of_ble_eq_true rfl) dX5_put_49 ⟨Nat.zero_le _, Nat.zero_le _⟩) h (fun H locs h => ?_)
    refine lv_aload_n hx hb dX5_put_52 rfl (lv_at hl 0 rfl) ?_
    refine g_get B h 44 (by decide) (C := RX5) (T := TX5) (N := 21) (M_row _) rfl hin_X5 2 (by decide) hw831 rfl rfl dX5_put_53 ?_
    refine lv_iload_n hx hb dX5_put_56 rfl (lv_at hl 1 rfl) ?_
    obtain ⟨c18, hf⟩ := chk_some hf
    refine g_iald B h 47 (by decide) (n := 3) (fun _ => rfl) (inb_in c18) dX5_put_57 ?_
    cases hf
    exact sE_i B hr h dX5_put_58
  · rw [if_neg c16] at hf
    refine lv_iconst (v := (0 : Int32)) hx hb dX5_put_43 (by decide) ?_
    cases hf
    exact sE_i B hr h dX5_put_44
set_option maxHeartbeats 4000000 in
set_option maxRecDepth 100000 in
theorem k_X5_put_0 {p : Program} {l : Launch} {e : Env} {s : State} {m : MethodId} {args : Array Value} {below : List Frame} {meth : Method} {c : Code} {D : va_G} {cy : Nat → ClassId} {ad : Nat → Nat} {X : sX} {r : Int32} {σ' : sM} (B : sB p l s m meth c args cX5_put 4 RX5 D cy ad) (hr : meth.sig.returnType = (some .int)) (v1 : Int32) (v2 : Int32) (v3 : Int32) (σ : sM) (hf : f_X5_put v1 v2 v3 σ = some (r, σ')) : sGo p l e { frames := 2, cells := 0, slots := 0, locals := 48 } s m args below meth c D cy ad X 4 (sQ below args s 0 0 D cy ad (.inr (some (.int r))) X σ') σ 0 [(0, .ref (ad 44)), (1, .int v1), (2, .int v2), (3, .int v3)] [] := by
  replace hf : (rthn (f_X5_isMap v1 σ) (fun vr1 => if vr1 = 0 then (wthn (f_X5_refused (1 : Int32) σ) (fun vr11 σ11 => if vr11 = 0 then (wthn (f_X5_puts v1 v2 v3 σ11) (fun _ σ13 => chk (inb v1 3) (some ((σ13 47 (v1).toNatClampNeg), σ13)))) else (some ((0 : Int32), σ11)))) else (chk (inb v1 3) (if (σ 47 (v1).toNatClampNeg) = (60 : Int32) then (rthn (f_X5_has v1 v2 σ) (fun vr5 => if vr5 = 0 then (wthn (f_X5_refused (2 : Int32) σ) (fun vr7 σ7 => if vr7 = 0 then (wthn (f_X5_puts v1 v2 v3 σ7) (fun _ σ9 => chk (inb v1 3) (some ((σ9 47 (v1).toNatClampNeg), σ9)))) else (some ((0 : Int32), σ7)))) else (b_X5_put_36 v1 v2 v3 σ))) else (b_X5_put_36 v1 v2 v3 σ))))) = some (r, σ') := hf
  intro H locs ls h hl
  have hx := B.1
  have hb := B.2.1
  refine lv_aload_n hx hb dX5_put_0 rfl (lv_at hl 0 rfl) ?_
  refine lv_iload_n hx hb dX5_put_1 rfl (lv_at hl 1 rfl) ?_
  obtain ⟨vr1, hq1, hf⟩ := rthn_some hf
  refine sRetC1 (g_runS B h (ok_X5_isMap B.2.2.2.2.2.2.2.2 B.2.2.2.2.2.2.1 _ _ v1 hq1) cw_X5_87 ⟨Nat.le_of_ble_eq_true rfl, Nat.le_of_ble_eq_true rfl⟩ rfl hl.1.symm rfl (Nat.le_of_ble_eq_true rfl) dX5_put_2 ⟨Nat.zero_le _, Nat.zero_le _⟩) h (fun H locs h => ?_)
  refine lv_if_ne (tgt := 12) hx hb dX5_put_5 (by decide) (fun c2 => ?_) (fun c2 => ?_)
  · rw [if_neg c2] at hf
    refine lv_aload_n hx hb dX5_put_12 rfl (lv_at hl 0 rfl) ?_
    refine g_get B h 44 (by decide) (C := RX5) (T := TX5) (N := 21) (M_row _) rfl hin_X5 2 (by decide) hw831 rfl rfl dX5_put_13 ?_
    refine lv_iload_n hx hb dX5_put_16 rfl (lv_at hl 1 rfl) ?_
    obtain ⟨c3, hf⟩ := chk_some hf
    refine g_iald B h 47 (by decide) (n := 3) (fun _ => rfl) (inb_in c3) dX5_put_17 ?_
    refine lv_bipush (v := (60 : Int32)) hx hb dX5_put_18 (by decide) ?_
    refine lv_icmp_ne (tgt := 36) hx hb dX5_put_20 (by decide) (fun c4 => ?_) (fun c4 => ?_)
    · rw [if_neg c4] at hf
      exact k_X5_put_36 B hr  _ _ _ _ hf _ _ _ h (lv_sub hl [0, 1, 2, 3] rfl)
    · rw [if_pos c4] at hf
      refine lv_aload_n hx hb dX5_put_23 rfl (lv_at hl 0 rfl) ?_
      refine lv_iload_n hx hb dX5_put_24 rfl (lv_at hl 1 rfl) ?_
      refine lv_iload_n hx hb dX5_put_25 rfl (lv_at hl 2 rfl) ?_
      obtain ⟨vr5, hq5, hf⟩ := rthn_some hf
      refine sRetC1 (g_runV (k := 44) (T := TX5) (N := 21) B h (ok_X5_has B.2.2.2.2.2.2.2.2 B.2.2.2.2.2.2.1 _ _ v1 v2 hq5) cw_X5_91 ⟨Nat.le_of_ble_eq_true rfl, Nat.le_of_ble_eq_true rfl⟩ (by decide) (M_row _) rfl rfl hl.1.symm rfl (Nat.le_of_ble_eq_true rfl) dX5_put_26 ⟨Nat.zero_le _, Nat.zero_le _⟩) h (fun H locs h => ?_)
      refine lv_if_ne (tgt := 36) hx hb dX5_put_29 (by decide) (fun c6 => ?_) (fun c6 => ?_)
      · rw [if_neg c6] at hf
        exact k_X5_put_36 B hr  _ _ _ _ hf _ _ _ h (lv_sub hl [0, 1, 2, 3] rfl)
      · rw [if_pos c6] at hf
        refine lv_iconst (v := (2 : Int32)) hx hb dX5_put_32 (by decide) ?_
        refine lv_goto (tgt := 37) hx hb dX5_put_33 (by decide) ?_
        obtain ⟨vr7, σ7, hq7, hf⟩ := wthn_some hf
        refine sRetC1 (g_runV (k := 44) (T := TX5) (N := 21) B h (ok_X5_refused B.2.2.2.2.2.2.2.2 B.2.2.2.2.2.2.1 _ _ (2 : Int32) hq7) cw_X5_95 ⟨Nat.le_of_ble_eq_true rfl, Nat.le_of_ble_eq_true rfl⟩ (by decide) (M_row _) rfl rfl hl.1.symm rfl (Nat.le_of_ble_eq_true rfl) dX5_put_37 ⟨Nat.zero_le _, Nat.zero_le _⟩) h (fun H locs h => ?_)
        refine lv_if_eq (tgt := 45) hx hb dX5_put_40 (by decide) (fun c8 => ?_) (fun c8 => ?_)
        · rw [if_pos c8] at hf
          refine lv_aload_n hx hb dX5_put_45 rfl (lv_at hl 0 rfl) ?_
          refine lv_iload_n hx hb dX5_put_46 rfl (lv_at hl 1 rfl) ?_
          refine lv_iload_n hx hb dX5_put_47 rfl (lv_at hl 2 rfl) ?_
          refine lv_iload_n hx hb dX5_put_48 rfl (lv_at hl 3 rfl) ?_
          obtain ⟨vr9, σ9, hq9, hf⟩ := wthn_some hf
          refine sRetC0 (g_runV (k := 44) (T := TX5) (N := 21) B h (ok_X5_puts B.2.2.2.2.2.2.2.2 B.2.2.2.2.2.2.1 _ _ v1 v2 v3 hq9) cw_X5_98 ⟨Nat.le_of_ble_eq_true rfl, Nat.le_of_ble_eq_true rfl⟩ (by decide) (M_row _) rfl rfl hl.1.symm rfl (Nat.le_of_ble_eq_true rfl) dX5_put_49 ⟨Nat.zero_le _, Nat.zero_le _⟩) h (fun H locs h => ?_)
          refine lv_aload_n hx hb dX5_put_52 rfl (lv_at hl 0 rfl) ?_
          refine g_get B h 44 (by decide) (C := RX5) (T := TX5) (N := 21) (M_row _) rfl hin_X5 2 (by decide) hw831 rfl rfl dX5_put_53 ?_
          refine lv_iload_n hx hb dX5_put_56 rfl (lv_at hl 1 rfl) ?_
          obtain ⟨c10, hf⟩ := chk_some hf
          refine g_iald B h 47 (by decide) (n := 3) (fun _ => rfl) (inb_in c10) dX5_put_57 ?_
          cases hf
          exact sE_i B hr h dX5_put_58
        · rw [if_neg c8] at hf
          refine lv_iconst (v := (0 : Int32)) hx hb dX5_put_43 (by decide) ?_
          cases hf
          exact sE_i B hr h dX5_put_44
  · rw [if_pos c2] at hf
    refine lv_iconst (v := (1 : Int32)) hx hb dX5_put_8 (by decide) ?_
    refine lv_goto (tgt := 37) hx hb dX5_put_9 (by decide) ?_
    obtain ⟨vr11, σ11, hq11, hf⟩ := wthn_some hf
    refine sRetC1 (g_runV (k := 44) (T := TX5) (N := 21) B h (ok_X5_refused B.2.2.2.2.2.2.2.2 B.2.2.2.2.2.2.1 _ _ (1 : Int32) hq11) cw_X5_95 ⟨Nat.le_of_ble_eq_true rfl, Nat.le_of_ble_eq_true rfl⟩ (by decide) (M_row _) rfl rfl hl.1.symm rfl (Nat.le_of_ble_eq_true rfl) dX5_put_37 ⟨Nat.zero_le _, Nat.zero_le _⟩) h (fun H locs h => ?_)
    refine lv_if_eq (tgt := 45) hx hb dX5_put_40 (by decide) (fun c12 => ?_) (fun c12 => ?_)
    · rw [if_pos c12] at hf
      refine lv_aload_n hx hb dX5_put_45 rfl (lv_at hl 0 rfl) ?_
      refine lv_iload_n hx hb dX5_put_46 rfl (lv_at hl 1 rfl) ?_
      refine lv_iload_n hx hb dX5_put_47 rfl (lv_at hl 2 rfl) ?_
      refine lv_iload_n hx hb dX5_put_48 rfl (lv_at hl 3 rfl) ?_
      obtain ⟨vr13, σ13, hq13, hf⟩ := wthn_some hf
      refine sRetC0 (g_runV (k := 44) (T := TX5) (N := 21) B h (ok_X5_puts B.2.2.2.2.2.2.2.2 B.2.2.2.2.2.2.1 _ _ v1 v2 v3 hq13) cw_X5_98 ⟨Nat.le_of_ble_eq_true rfl, Nat.le_of_ble_eq_true rfl⟩ (by decide) (M_row _) rfl rfl hl.1.symm rfl (Nat.le_of_ble_eq_true rfl) dX5_put_49 ⟨Nat.zero_le _, Nat.zero_le _⟩) h (fun H locs h => ?_)
      refine lv_aload_n hx hb dX5_put_52 rfl (lv_at hl 0 rfl) ?_
      refine g_get B h 44 (by decide) (C := RX5) (T := TX5) (N := 21) (M_row _) rfl hin_X5 2 (by decide) hw831 rfl rfl dX5_put_53 ?_
      refine lv_iload_n hx hb dX5_put_56 rfl (lv_at hl 1 rfl) ?_
      obtain ⟨c14, hf⟩ := chk_some hf
      refine g_iald B h 47 (by decide) (n := 3) (fun _ => rfl) (inb_in c14) dX5_put_57 ?_
      cases hf
      exact sE_i B hr h dX5_put_58
    · rw [if_neg c12] at hf
      refine lv_iconst (v := (0 : Int32)) hx hb dX5_put_43 (by decide) ?_
      cases hf
      exact sE_i B hr h dX5_put_44
set_option maxRecDepth 100000 in
theorem ok_X5_put {l : Launch} (hl0 : l.stackTraces = false) {D : va_G} {cy : Nat → ClassId} {ad : Nat → Nat} (hap : sAp ad) (X : sX) (σ : sM) (v1 : Int32) (v2 : Int32) (v3 : Int32) {r : Int32} {σ' : sM} (hf : f_X5_put v1 v2 v3 σ = some (r, σ')) : sMet l yX5_put (sWs yX5_put cX5_put 4 (some .int)) 2 48 0 0 D cy ad X σ [.ref (ad 44), .int v1, .int v2, .int v3] (.inr (some (.int r))) X σ' := by
  refine sMet_of (by decide +kernel) (Nat.le_of_ble_eq_true rfl) hap hl0 ?_
  intro p e s m args below meth c ls B hr htab hl h
  exact k_X5_put_0 B hr _ _ _ _  hf _ _ _ h hl
set_option maxHeartbeats 4000000 in
set_option maxRecDepth 100000 in
theorem k_X5_remove_13 {p : Program} {l : Launch} {e : Env} {s : State} {m : MethodId} {args : Array Value} {below : List Frame} {meth : Method} {c : Code} {D : va_G} {cy : Nat → ClassId} {ad : Nat → Nat} {X : sX} {r : Int32} {σ' : sM} (B : sB p l s m meth c args cX5_remove 3 RX5 D cy ad) (hr : meth.sig.returnType = (some .int)) (v1 : Int32) (v2 : Int32) (vs1 : Int32) (σ : sM) (hf : b_X5_remove_13 v1 v2 vs1 σ = some (r, σ')) : sGo p l e { frames := 2, cells := 0, slots := 0, locals := 45 } s m args below meth c D cy ad X 3 (sQ below args s 0 0 D cy ad (.inr (some (.int r))) X σ') σ 13 [(0, .ref (ad 44)), (1, .int v1), (2, .int v2)] [.int vs1, .ref (ad 44)] := by
  replace hf : (wthn (f_X5_refused vs1 σ) (fun vr3 σ3 => if vr3 = 0 then (rthn (f_X5_has v1 v2 σ3) (fun vr5 => if vr5 = 0 then (chk (inb v1 3) (some ((σ3 47 (v1).toNatClampNeg), σ3))) else (rthn (f_X5_placeOf v1 v2 σ3) (fun vr8 => wthn (f_X5_takes v1 vr8 σ3) (fun _ σ9 => chk (inb v1 3) (some ((σ9 47 (v1).toNatClampNeg), σ9))))))) else (some ((0 : Int32), σ3)))) = some (r, σ') := hf
  intro H locs ls h hl
  have hx := B.1
  have hb := B.2.1
  obtain ⟨vr3, σ3, hq3, hf⟩ := wthn_some hf
  refine sRetC1 (g_runV (k := 44) (T := TX5) (N := 21) B h (ok_X5_refused B.2.2.2.2.2.2.2.2 B.2.2.2.2.2.2.1 _ _ vs1 hq3) cw_X5_95 ⟨Nat.le_of_ble_eq_true rfl, Nat.le_of_ble_eq_true rfl⟩ (by decide) (M_row _) rfl rfl hl.1.symm rfl (Nat.le_of_ble_eq_true rfl) dX5_remove_13 ⟨Nat.zero_le _, Nat.zero_le _⟩) h (fun H locs h => ?_)
  refine lv_if_eq (tgt := 21) hx hb dX5_remove_16 (by decide) (fun c4 => ?_) (fun c4 => ?_)
  · rw [if_pos c4] at hf
    refine lv_aload_n hx hb dX5_remove_21 rfl (lv_at hl 0 rfl) ?_
    refine lv_iload_n hx hb dX5_remove_22 rfl (lv_at hl 1 rfl) ?_
    refine lv_iload_n hx hb dX5_remove_23 rfl (lv_at hl 2 rfl) ?_
    obtain ⟨vr5, hq5, hf⟩ := rthn_some hf
    refine sRetC1 (g_runV (k := 44) (T := TX5) (N := 21) B h (ok_X5_has B.2.2.2.2.2.2.2.2 B.2.2.2.2.2.2.1 _ _ v1 v2 hq5) cw_X5_91 ⟨Nat.le_of_ble_eq_true rfl, Nat.le_of_ble_eq_true rfl⟩ (by decide) (M_row _) rfl rfl hl.1.symm rfl (Nat.le_of_ble_eq_true rfl) dX5_remove_24 ⟨Nat.zero_le _, Nat.zero_le _⟩) h (fun H locs h => ?_)
    refine lv_if_eq (tgt := 41) hx hb dX5_remove_27 (by decide) (fun c6 => ?_) (fun c6 => ?_)
    · rw [if_pos c6] at hf
      refine lv_aload_n hx hb dX5_remove_41 rfl (lv_at hl 0 rfl) ?_
      refine g_get B h 44 (by decide) (C := RX5) (T := TX5) (N := 21) (M_row _) rfl hin_X5 2 (by decide) hw831 rfl rfl dX5_remove_42 ?_
      refine lv_iload_n hx hb dX5_remove_45 rfl (lv_at hl 1 rfl) ?_
      obtain ⟨c7, hf⟩ := chk_some hf
      refine g_iald B h 47 (by decide) (n := 3) (fun _ => rfl) (inb_in c7) dX5_remove_46 ?_
      cases hf
      exact sE_i B hr h dX5_remove_47
    · rw [if_neg c6] at hf
      refine lv_aload_n hx hb dX5_remove_30 rfl (lv_at hl 0 rfl) ?_
      refine lv_iload_n hx hb dX5_remove_31 rfl (lv_at hl 1 rfl) ?_
      refine lv_aload_n hx hb dX5_remove_32 rfl (lv_at hl 0 rfl) ?_
      refine lv_iload_n hx hb dX5_remove_33 rfl (lv_at hl 1 rfl) ?_
      refine lv_iload_n hx hb dX5_remove_34 rfl (lv_at hl 2 rfl) ?_
      obtain ⟨vr8, hq8, hf⟩ := rthn_some hf
      refine sRetC1 (g_runV (k := 44) (T := TX5) (N := 21) B h (ok_X5_placeOf B.2.2.2.2.2.2.2.2 B.2.2.2.2.2.2.1 _ _ v1 v2 hq8) cw_X5_68 ⟨Nat.le_of_ble_eq_true rfl, Nat.le_of_ble_eq_true rfl⟩ (by decide) (M_row _) rfl rfl hl.1.symm rfl (Nat.le_of_ble_eq_true rfl) dX5_remove_35 ⟨Nat.zero_le _, Nat.zero_le _⟩) h (fun H locs h => ?_)
      obtain ⟨vr9, σ9, hq9, hf⟩ := wthn_some hf
      refine sRetC0 (g_runV (k := 44) (T := TX5) (N := 21) B h (ok_X5_takes B.2.2.2.2.2.2.2.2 B.2.2.2.2.2.2.1 _ _ v1 vr8 hq9) cw_X5_79 ⟨Nat.le_of_ble_eq_true rfl, Nat.le_of_ble_eq_true rfl⟩ (by decide) (M_row _) rfl rfl hl.1.symm rfl (Nat.le_of_ble_eq_true rfl) dX5_remove_38 ⟨Nat.zero_le _, Nat.zero_le _⟩) h (fun H locs h => ?_)
      refine lv_aload_n hx hb dX5_remove_41 rfl (lv_at hl 0 rfl) ?_
      refine g_get B h 44 (by decide) (C := RX5) (T := TX5) (N := 21) (M_row _) rfl hin_X5 2 (by decide) hw831 rfl rfl dX5_remove_42 ?_
      refine lv_iload_n hx hb dX5_remove_45 rfl (lv_at hl 1 rfl) ?_
      obtain ⟨c10, hf⟩ := chk_some hf
      refine g_iald B h 47 (by decide) (n := 3) (fun _ => rfl) (inb_in c10) dX5_remove_46 ?_
      cases hf
      exact sE_i B hr h dX5_remove_47
  · rw [if_neg c4] at hf
    refine lv_iconst (v := (0 : Int32)) hx hb dX5_remove_19 (by decide) ?_
    cases hf
    exact sE_i B hr h dX5_remove_20
set_option maxHeartbeats 4000000 in
set_option maxRecDepth 100000 in
theorem k_X5_remove_0 {p : Program} {l : Launch} {e : Env} {s : State} {m : MethodId} {args : Array Value} {below : List Frame} {meth : Method} {c : Code} {D : va_G} {cy : Nat → ClassId} {ad : Nat → Nat} {X : sX} {r : Int32} {σ' : sM} (B : sB p l s m meth c args cX5_remove 3 RX5 D cy ad) (hr : meth.sig.returnType = (some .int)) (v1 : Int32) (v2 : Int32) (σ : sM) (hf : f_X5_remove v1 v2 σ = some (r, σ')) : sGo p l e { frames := 2, cells := 0, slots := 0, locals := 45 } s m args below meth c D cy ad X 3 (sQ below args s 0 0 D cy ad (.inr (some (.int r))) X σ') σ 0 [(0, .ref (ad 44)), (1, .int v1), (2, .int v2)] [] := by
  replace hf : (rthn (f_X5_isMap v1 σ) (fun vr1 => if vr1 = 0 then (b_X5_remove_13 v1 v2 (1 : Int32) σ) else (b_X5_remove_13 v1 v2 (0 : Int32) σ))) = some (r, σ') := hf
  intro H locs ls h hl
  have hx := B.1
  have hb := B.2.1
  refine lv_aload_n hx hb dX5_remove_0 rfl (lv_at hl 0 rfl) ?_
  refine lv_iload_n hx hb dX5_remove_1 rfl (lv_at hl 1 rfl) ?_
  obtain ⟨vr1, hq1, hf⟩ := rthn_some hf
  refine sRetC1 (g_runS B h (ok_X5_isMap B.2.2.2.2.2.2.2.2 B.2.2.2.2.2.2.1 _ _ v1 hq1) cw_X5_87 ⟨Nat.le_of_ble_eq_true rfl, Nat.le_of_ble_eq_true rfl⟩ rfl hl.1.symm rfl (Nat.le_of_ble_eq_true rfl) dX5_remove_2 ⟨Nat.zero_le _, Nat.zero_le _⟩) h (fun H locs h => ?_)
  refine lv_if_ne (tgt := 12) hx hb dX5_remove_5 (by decide) (fun c2 => ?_) (fun c2 => ?_)
  · rw [if_neg c2] at hf
    refine lv_iconst (v := (0 : Int32)) hx hb dX5_remove_12 (by decide) ?_
    exact k_X5_remove_13 B hr  _ _ _ _ hf _ _ _ h (lv_sub hl [0, 1, 2] rfl)
  · rw [if_pos c2] at hf
    refine lv_iconst (v := (1 : Int32)) hx hb dX5_remove_8 (by decide) ?_
    refine lv_goto (tgt := 13) hx hb dX5_remove_9 (by decide) ?_
    exact k_X5_remove_13 B hr  _ _ _ _ hf _ _ _ h (lv_sub hl [0, 1, 2] rfl)
set_option maxRecDepth 100000 in
theorem ok_X5_remove {l : Launch} (hl0 : l.stackTraces = false) {D : va_G} {cy : Nat → ClassId} {ad : Nat → Nat} (hap : sAp ad) (X : sX) (σ : sM) (v1 : Int32) (v2 : Int32) {r : Int32} {σ' : sM} (hf : f_X5_remove v1 v2 σ = some (r, σ')) : sMet l yX5_remove (sWs yX5_remove cX5_remove 3 (some .int)) 2 45 0 0 D cy ad X σ [.ref (ad 44), .int v1, .int v2] (.inr (some (.int r))) X σ' := by
  refine sMet_of (by decide +kernel) (Nat.le_of_ble_eq_true rfl) hap hl0 ?_
  intro p e s m args below meth c ls B hr htab hl h
  exact k_X5_remove_0 B hr _ _ _  hf _ _ _ h hl
set_option maxHeartbeats 4000000 in
set_option maxRecDepth 100000 in
theorem k_X5_size_0 {p : Program} {l : Launch} {e : Env} {s : State} {m : MethodId} {args : Array Value} {below : List Frame} {meth : Method} {c : Code} {D : va_G} {cy : Nat → ClassId} {ad : Nat → Nat} {X : sX} {r : Int32} {σ' : sM} (B : sB p l s m meth c args cX5_size 2 RX5 D cy ad) (hr : meth.sig.returnType = (some .int)) (v1 : Int32) (σ : sM) (hf : f_X5_size v1 σ = some (r, σ')) : sGo p l e { frames := 2, cells := 0, slots := 0, locals := 42 } s m args below meth c D cy ad X 2 (sQ below args s 0 0 D cy ad (.inr (some (.int r))) X σ') σ 0 [(0, .ref (ad 44)), (1, .int v1)] [] := by
  replace hf : (rthn (f_X5_isMap v1 σ) (fun vr1 => if vr1 = 0 then (wthn (f_X5_refused (1 : Int32) σ) (fun vr6 σ6 => if vr6 = 0 then (chk (inb v1 3) (some ((σ6 47 (v1).toNatClampNeg), σ6))) else (some ((0 : Int32), σ6)))) else (wthn (f_X5_refused (0 : Int32) σ) (fun vr3 σ3 => if vr3 = 0 then (chk (inb v1 3) (some ((σ3 47 (v1).toNatClampNeg), σ3))) else (some ((0 : Int32), σ3)))))) = some (r, σ') := hf
  intro H locs ls h hl
  have hx := B.1
  have hb := B.2.1
  refine lv_aload_n hx hb dX5_size_0 rfl (lv_at hl 0 rfl) ?_
  refine lv_iload_n hx hb dX5_size_1 rfl (lv_at hl 1 rfl) ?_
  obtain ⟨vr1, hq1, hf⟩ := rthn_some hf
  refine sRetC1 (g_runS B h (ok_X5_isMap B.2.2.2.2.2.2.2.2 B.2.2.2.2.2.2.1 _ _ v1 hq1) cw_X5_87 ⟨Nat.le_of_ble_eq_true rfl, Nat.le_of_ble_eq_true rfl⟩ rfl hl.1.symm rfl (Nat.le_of_ble_eq_true rfl) dX5_size_2 ⟨Nat.zero_le _, Nat.zero_le _⟩) h (fun H locs h => ?_)
  refine lv_if_ne (tgt := 12) hx hb dX5_size_5 (by decide) (fun c2 => ?_) (fun c2 => ?_)
  · rw [if_neg c2] at hf
    refine lv_iconst (v := (0 : Int32)) hx hb dX5_size_12 (by decide) ?_
    obtain ⟨vr3, σ3, hq3, hf⟩ := wthn_some hf
    refine sRetC1 (g_runV (k := 44) (T := TX5) (N := 21) B h (ok_X5_refused B.2.2.2.2.2.2.2.2 B.2.2.2.2.2.2.1 _ _ (0 : Int32) hq3) cw_X5_95 ⟨Nat.le_of_ble_eq_true rfl, Nat.le_of_ble_eq_true rfl⟩ (by decide) (M_row _) rfl rfl hl.1.symm rfl (Nat.le_of_ble_eq_true rfl) dX5_size_13 ⟨Nat.zero_le _, Nat.zero_le _⟩) h (fun H locs h => ?_)
    refine lv_if_eq (tgt := 23) hx hb dX5_size_16 (by decide) (fun c4 => ?_) (fun c4 => ?_)
    · rw [if_pos c4] at hf
      refine lv_aload_n hx hb dX5_size_23 rfl (lv_at hl 0 rfl) ?_
      refine g_get B h 44 (by decide) (C := RX5) (T := TX5) (N := 21) (M_row _) rfl hin_X5 2 (by decide) hw831 rfl rfl dX5_size_24 ?_
      refine lv_iload_n hx hb dX5_size_27 rfl (lv_at hl 1 rfl) ?_
      obtain ⟨c5, hf⟩ := chk_some hf
      refine g_iald B h 47 (by decide) (n := 3) (fun _ => rfl) (inb_in c5) dX5_size_28 ?_
      cases hf
      exact sE_i B hr h dX5_size_29
    · rw [if_neg c4] at hf
      refine lv_iconst (v := (0 : Int32)) hx hb dX5_size_19 (by decide) ?_
      refine lv_goto (tgt := 29) hx hb dX5_size_20 (by decide) ?_
      cases hf
      exact sE_i B hr h dX5_size_29
  · rw [if_pos c2] at hf
    refine lv_iconst (v := (1 : Int32)) hx hb dX5_size_8 (by decide) ?_
    refine lv_goto (tgt := 13) hx hb dX5_size_9 (by decide) ?_
    obtain ⟨vr6, σ6, hq6, hf⟩ := wthn_some hf
    refine sRetC1 (g_runV (k := 44) (T := TX5) (N := 21) B h (ok_X5_refused B.2.2.2.2.2.2.2.2 B.2.2.2.2.2.2.1 _ _ (1 : Int32) hq6) cw_X5_95 ⟨Nat.le_of_ble_eq_true rfl, Nat.le_of_ble_eq_true rfl⟩ (by decide) (M_row _) rfl rfl hl.1.symm rfl (Nat.le_of_ble_eq_true rfl) dX5_size_13 ⟨Nat.zero_le _, Nat.zero_le _⟩) h (fun H locs h => ?_)
    refine lv_if_eq (tgt := 23) hx hb dX5_size_16 (by decide) (fun c7 => ?_) (fun c7 => ?_)
    · rw [if_pos c7] at hf
      refine lv_aload_n hx hb dX5_size_23 rfl (lv_at hl 0 rfl) ?_
      refine g_get B h 44 (by decide) (C := RX5) (T := TX5) (N := 21) (M_row _) rfl hin_X5 2 (by decide) hw831 rfl rfl dX5_size_24 ?_
      refine lv_iload_n hx hb dX5_size_27 rfl (lv_at hl 1 rfl) ?_
      obtain ⟨c8, hf⟩ := chk_some hf
      refine g_iald B h 47 (by decide) (n := 3) (fun _ => rfl) (inb_in c8) dX5_size_28 ?_
      cases hf
      exact sE_i B hr h dX5_size_29
    · rw [if_neg c7] at hf
      refine lv_iconst (v := (0 : Int32)) hx hb dX5_size_19 (by decide) ?_
      refine lv_goto (tgt := 29) hx hb dX5_size_20 (by decide) ?_
      cases hf
      exact sE_i B hr h dX5_size_29
set_option maxRecDepth 100000 in
theorem ok_X5_size {l : Launch} (hl0 : l.stackTraces = false) {D : va_G} {cy : Nat → ClassId} {ad : Nat → Nat} (hap : sAp ad) (X : sX) (σ : sM) (v1 : Int32) {r : Int32} {σ' : sM} (hf : f_X5_size v1 σ = some (r, σ')) : sMet l yX5_size (sWs yX5_size cX5_size 2 (some .int)) 2 42 0 0 D cy ad X σ [.ref (ad 44), .int v1] (.inr (some (.int r))) X σ' := by
  refine sMet_of (by decide +kernel) (Nat.le_of_ble_eq_true rfl) hap hl0 ?_
  intro p e s m args below meth c ls B hr htab hl h
  exact k_X5_size_0 B hr _ _  hf _ _ _ h hl
set_option maxHeartbeats 4000000 in
set_option maxRecDepth 100000 in
theorem k_X5_step_74 {p : Program} {l : Launch} {e : Env} {s : State} {m : MethodId} {args : Array Value} {below : List Frame} {meth : Method} {c : Code} {D : va_G} {cy : Nat → ClassId} {ad : Nat → Nat} {X : sX} {r : Int32} {σ' : sM} (B : sB p l s m meth c args cX5_step 6 RX5 D cy ad) (hr : meth.sig.returnType = (some .int)) (v1 : Int32) (v2 : Int32) (v3 : Int32) (v4 : Int32) (vs1 : Int32) (σ : sM) (hf : b_X5_step_74 v1 v2 v3 v4 vs1 σ = some (r, σ')) : sGo p l e { frames := 2, cells := 0, slots := 0, locals := 42 } s m args below meth c D cy ad X 6 (sQ below args s 0 0 D cy ad (.inr (some (.int r))) X σ') σ 74 [(0, .ref (ad 44)), (1, .int v1), (2, .int v2), (3, .int v3), (4, .int v4)] [.int vs1, .ref (ad 44)] := by
  replace hf : (wthn (f_X5_refused vs1 σ) (fun vr11 σ11 => if vr11 = 0 then (wthn (f_X5_adds v1 v2 v3 v4 σ11) (fun _ σ13 => chk (inb v1 3) (some ((σ13 58 (v1).toNatClampNeg), σ13)))) else (some ((0 : Int32), σ11)))) = some (r, σ') := hf
  intro H locs ls h hl
  have hx := B.1
  have hb := B.2.1
  obtain ⟨vr11, σ11, hq11, hf⟩ := wthn_some hf
  refine sRetC1 (g_runV (k := 44) (T := TX5) (N := 21) B h (ok_X5_refused B.2.2.2.2.2.2.2.2 B.2.2.2.2.2.2.1 _ _ vs1 hq11) cw_X5_95 ⟨Nat.le_of_ble_eq_true rfl, Nat.le_of_ble_eq_true rfl⟩ (by decide) (M_row _) rfl rfl hl.1.symm rfl (Nat.le_of_ble_eq_true rfl) dX5_step_74 ⟨Nat.zero_le _, Nat.zero_le _⟩) h (fun H locs h => ?_)
  refine lv_if_eq (tgt := 82) hx hb dX5_step_77 (by decide) (fun c12 => ?_) (fun c12 => ?_)
  · rw [if_pos c12] at hf
    refine lv_aload_n hx hb dX5_step_82 rfl (lv_at hl 0 rfl) ?_
    refine lv_iload_n hx hb dX5_step_83 rfl (lv_at hl 1 rfl) ?_
    refine lv_iload_n hx hb dX5_step_84 rfl (lv_at hl 2 rfl) ?_
    refine lv_iload_n hx hb dX5_step_85 rfl (lv_at hl 3 rfl) ?_
    refine lv_iload hx hb dX5_step_86 (lv_at hl 4 rfl) ?_
    obtain ⟨vr13, σ13, hq13, hf⟩ := wthn_some hf
    refine sRetC0 (g_runV (k := 44) (T := TX5) (N := 21) B h (ok_X5_adds B.2.2.2.2.2.2.2.2 B.2.2.2.2.2.2.1 _ _ v1 v2 v3 v4 hq13) cw_X5_139 ⟨Nat.le_of_ble_eq_true rfl, Nat.le_of_ble_eq_true rfl⟩ (by decide) (M_row _) rfl rfl hl.1.symm rfl (Nat.le_of_ble_eq_true rfl) dX5_step_88 ⟨Nat.zero_le _, Nat.zero_le _⟩) h (fun H locs h => ?_)
    refine lv_aload_n hx hb dX5_step_91 rfl (lv_at hl 0 rfl) ?_
    refine g_get B h 44 (by decide) (C := RX5) (T := TX5) (N := 21) (M_row _) rfl hin_X5 13 (by decide) hw842 rfl rfl dX5_step_92 ?_
    refine lv_iload_n hx hb dX5_step_95 rfl (lv_at hl 1 rfl) ?_
    obtain ⟨c14, hf⟩ := chk_some hf
    refine g_iald B h 58 (by decide) (n := 3) (fun _ => rfl) (inb_in c14) dX5_step_96 ?_
    cases hf
    exact sE_i B hr h dX5_step_97
  · rw [if_neg c12] at hf
    refine lv_iconst (v := (0 : Int32)) hx hb dX5_step_80 (by decide) ?_
    cases hf
    exact sE_i B hr h dX5_step_81
set_option maxHeartbeats 4000000 in
set_option maxRecDepth 100000 in
theorem k_X5_step_35 {p : Program} {l : Launch} {e : Env} {s : State} {m : MethodId} {args : Array Value} {below : List Frame} {meth : Method} {c : Code} {D : va_G} {cy : Nat → ClassId} {ad : Nat → Nat} {X : sX} {r : Int32} {σ' : sM} (B : sB p l s m meth c args cX5_step 6 RX5 D cy ad) (hr : meth.sig.returnType = (some .int)) (v1 : Int32) (v2 : Int32) (v3 : Int32) (v4 : Int32) (vs0 : Int32) (σ : sM) (hf : b_X5_step_35 v1 v2 v3 v4 vs0 σ = some (r, σ')) : sGo p l e { frames := 2, cells := 0, slots := 0, locals := 42 } s m args below meth c D cy ad X 6 (sQ below args s 0 0 D cy ad (.inr (some (.int r))) X σ') σ 35 [(0, .ref (ad 44)), (1, .int v1), (2, .int v2), (3, .int v3), (4, .int v4)] [.int vs0] := by
  replace hf : (rthn (f_X5_isHistory v1 σ) (fun vr6 => if vr6 = 0 then (b_X5_step_74 v1 v2 v3 v4 (1 : Int32) σ) else (if vs0 = 0 then (b_X5_step_74 v1 v2 v3 v4 (2 : Int32) σ) else (chk (inb v1 3) (if (σ 58 (v1).toNatClampNeg) = (30 : Int32) then (b_X5_step_74 v1 v2 v3 v4 (3 : Int32) σ) else (b_X5_step_74 v1 v2 v3 v4 (0 : Int32) σ)))))) = some (r, σ') := hf
  intro H locs ls h hl
  have hx := B.1
  have hb := B.2.1
  refine lv_istore (lv' := [(5, .int vs0), (0, .ref (ad 44)), (1, .int v1), (2, .int v2), (3, .int v3), (4, .int v4)]) hx hb dX5_step_35 hl (by decide) rfl (fun ls hl => ?_)
  refine lv_aload_n hx hb dX5_step_37 rfl (lv_at hl 1 rfl) ?_
  refine lv_iload_n hx hb dX5_step_38 rfl (lv_at hl 2 rfl) ?_
  obtain ⟨vr6, hq6, hf⟩ := rthn_some hf
  refine sRetC1 (g_runS B h (ok_X5_isHistory B.2.2.2.2.2.2.2.2 B.2.2.2.2.2.2.1 _ _ v1 hq6) cw_X5_136 ⟨Nat.le_of_ble_eq_true rfl, Nat.le_of_ble_eq_true rfl⟩ rfl hl.1.symm rfl (Nat.le_of_ble_eq_true rfl) dX5_step_39 ⟨Nat.zero_le _, Nat.zero_le _⟩) h (fun H locs h => ?_)
  refine lv_if_ne (tgt := 49) hx hb dX5_step_42 (by decide) (fun c7 => ?_) (fun c7 => ?_)
  · rw [if_neg c7] at hf
    refine lv_iload hx hb dX5_step_49 (lv_at hl 0 rfl) ?_
    refine lv_if_ne (tgt := 58) hx hb dX5_step_51 (by decide) (fun c8 => ?_) (fun c8 => ?_)
    · rw [if_neg c8] at hf
      refine lv_aload_n hx hb dX5_step_58 rfl (lv_at hl 1 rfl) ?_
      refine g_get B h 44 (by decide) (C := RX5) (T := TX5) (N := 21) (M_row _) rfl hin_X5 13 (by decide) hw842 rfl rfl dX5_step_59 ?_
      refine lv_iload_n hx hb dX5_step_62 rfl (lv_at hl 2 rfl) ?_
      obtain ⟨c9, hf⟩ := chk_some hf
      refine g_iald B h 58 (by decide) (n := 3) (fun _ => rfl) (inb_in c9) dX5_step_63 ?_
      refine lv_bipush (v := (30 : Int32)) hx hb dX5_step_64 (by decide) ?_
      refine lv_icmp_ne (tgt := 73) hx hb dX5_step_66 (by decide) (fun c10 => ?_) (fun c10 => ?_)
      · rw [if_neg c10] at hf
        refine lv_iconst (v := (0 : Int32)) hx hb dX5_step_73 (by decide) ?_
        exact k_X5_step_74 B hr  _ _ _ _ _ _ hf _ _ _ h (lv_sub hl [1, 2, 3, 4, 5] rfl)
      · rw [if_pos c10] at hf
        refine lv_iconst (v := (3 : Int32)) hx hb dX5_step_69 (by decide) ?_
        refine lv_goto (tgt := 74) hx hb dX5_step_70 (by decide) ?_
        exact k_X5_step_74 B hr  _ _ _ _ _ _ hf _ _ _ h (lv_sub hl [1, 2, 3, 4, 5] rfl)
    · rw [if_pos c8] at hf
      refine lv_iconst (v := (2 : Int32)) hx hb dX5_step_54 (by decide) ?_
      refine lv_goto (tgt := 74) hx hb dX5_step_55 (by decide) ?_
      exact k_X5_step_74 B hr  _ _ _ _ _ _ hf _ _ _ h (lv_sub hl [1, 2, 3, 4, 5] rfl)
  · rw [if_pos c7] at hf
    refine lv_iconst (v := (1 : Int32)) hx hb dX5_step_45 (by decide) ?_
    refine lv_goto (tgt := 74) hx hb dX5_step_46 (by decide) ?_
    exact k_X5_step_74 B hr  _ _ _ _ _ _ hf _ _ _ h (lv_sub hl [1, 2, 3, 4, 5] rfl)
set_option maxHeartbeats 4000000 in
set_option maxRecDepth 100000 in
theorem k_X5_step_0 {p : Program} {l : Launch} {e : Env} {s : State} {m : MethodId} {args : Array Value} {below : List Frame} {meth : Method} {c : Code} {D : va_G} {cy : Nat → ClassId} {ad : Nat → Nat} {X : sX} {r : Int32} {σ' : sM} (B : sB p l s m meth c args cX5_step 6 RX5 D cy ad) (hr : meth.sig.returnType = (some .int)) (v1 : Int32) (v2 : Int32) (v3 : Int32) (v4 : Int32) (σ : sM) (hf : f_X5_step v1 v2 v3 v4 σ = some (r, σ')) : sGo p l e { frames := 2, cells := 0, slots := 0, locals := 42 } s m args below meth c D cy ad X 6 (sQ below args s 0 0 D cy ad (.inr (some (.int r))) X σ') σ 0 [(0, .ref (ad 44)), (1, .int v1), (2, .int v2), (3, .int v3), (4, .int v4)] [] := by
  replace hf : (if v2 = (112 : Int32) then (b_X5_step_35 v1 v2 v3 v4 (1 : Int32) σ) else (if v2 = (114 : Int32) then (b_X5_step_35 v1 v2 v3 v4 (1 : Int32) σ) else (if v2 = (115 : Int32) then (b_X5_step_35 v1 v2 v3 v4 (1 : Int32) σ) else (if v2 = (97 : Int32) then (b_X5_step_35 v1 v2 v3 v4 (1 : Int32) σ) else (if v2 = (120 : Int32) then (b_X5_step_35 v1 v2 v3 v4 (1 : Int32) σ) else (b_X5_step_35 v1 v2 v3 v4 (0 : Int32) σ)))))) = some (r, σ') := hf
  intro H locs ls h hl
  have hx := B.1
  have hb := B.2.1
  refine lv_iload_n hx hb dX5_step_0 rfl (lv_at hl 2 rfl) ?_
  refine lv_bipush (v := (112 : Int32)) hx hb dX5_step_1 (by decide) ?_
  refine lv_icmp_eq (tgt := 30) hx hb dX5_step_3 (by decide) (fun c1 => ?_) (fun c1 => ?_)
  · rw [if_pos c1] at hf
    refine lv_iconst (v := (1 : Int32)) hx hb dX5_step_30 (by decide) ?_
    refine lv_goto (tgt := 35) hx hb dX5_step_31 (by decide) ?_
    exact k_X5_step_35 B hr  _ _ _ _ _ _ hf _ _ _ h (lv_sub hl [0, 1, 2, 3, 4] rfl)
  · rw [if_neg c1] at hf
    refine lv_iload_n hx hb dX5_step_6 rfl (lv_at hl 2 rfl) ?_
    refine lv_bipush (v := (114 : Int32)) hx hb dX5_step_7 (by decide) ?_
    refine lv_icmp_eq (tgt := 30) hx hb dX5_step_9 (by decide) (fun c2 => ?_) (fun c2 => ?_)
    · rw [if_pos c2] at hf
      refine lv_iconst (v := (1 : Int32)) hx hb dX5_step_30 (by decide) ?_
      refine lv_goto (tgt := 35) hx hb dX5_step_31 (by decide) ?_
      exact k_X5_step_35 B hr  _ _ _ _ _ _ hf _ _ _ h (lv_sub hl [0, 1, 2, 3, 4] rfl)
    · rw [if_neg c2] at hf
      refine lv_iload_n hx hb dX5_step_12 rfl (lv_at hl 2 rfl) ?_
      refine lv_bipush (v := (115 : Int32)) hx hb dX5_step_13 (by decide) ?_
      refine lv_icmp_eq (tgt := 30) hx hb dX5_step_15 (by decide) (fun c3 => ?_) (fun c3 => ?_)
      · rw [if_pos c3] at hf
        refine lv_iconst (v := (1 : Int32)) hx hb dX5_step_30 (by decide) ?_
        refine lv_goto (tgt := 35) hx hb dX5_step_31 (by decide) ?_
        exact k_X5_step_35 B hr  _ _ _ _ _ _ hf _ _ _ h (lv_sub hl [0, 1, 2, 3, 4] rfl)
      · rw [if_neg c3] at hf
        refine lv_iload_n hx hb dX5_step_18 rfl (lv_at hl 2 rfl) ?_
        refine lv_bipush (v := (97 : Int32)) hx hb dX5_step_19 (by decide) ?_
        refine lv_icmp_eq (tgt := 30) hx hb dX5_step_21 (by decide) (fun c4 => ?_) (fun c4 => ?_)
        · rw [if_pos c4] at hf
          refine lv_iconst (v := (1 : Int32)) hx hb dX5_step_30 (by decide) ?_
          refine lv_goto (tgt := 35) hx hb dX5_step_31 (by decide) ?_
          exact k_X5_step_35 B hr  _ _ _ _ _ _ hf _ _ _ h (lv_sub hl [0, 1, 2, 3, 4] rfl)
        · rw [if_neg c4] at hf
          refine lv_iload_n hx hb dX5_step_24 rfl (lv_at hl 2 rfl) ?_
          refine lv_bipush (v := (120 : Int32)) hx hb dX5_step_25 (by decide) ?_
          refine lv_icmp_ne (tgt := 34) hx hb dX5_step_27 (by decide) (fun c5 => ?_) (fun c5 => ?_)
          · rw [if_neg c5] at hf
            refine lv_iconst (v := (0 : Int32)) hx hb dX5_step_34 (by decide) ?_
            exact k_X5_step_35 B hr  _ _ _ _ _ _ hf _ _ _ h (lv_sub hl [0, 1, 2, 3, 4] rfl)
          · rw [if_pos c5] at hf
            refine lv_iconst (v := (1 : Int32)) hx hb dX5_step_30 (by decide) ?_
            refine lv_goto (tgt := 35) hx hb dX5_step_31 (by decide) ?_
            exact k_X5_step_35 B hr  _ _ _ _ _ _ hf _ _ _ h (lv_sub hl [0, 1, 2, 3, 4] rfl)
set_option maxRecDepth 100000 in
theorem ok_X5_step {l : Launch} (hl0 : l.stackTraces = false) {D : va_G} {cy : Nat → ClassId} {ad : Nat → Nat} (hap : sAp ad) (X : sX) (σ : sM) (v1 : Int32) (v2 : Int32) (v3 : Int32) (v4 : Int32) {r : Int32} {σ' : sM} (hf : f_X5_step v1 v2 v3 v4 σ = some (r, σ')) : sMet l yX5_step (sWs yX5_step cX5_step 6 (some .int)) 2 42 0 0 D cy ad X σ [.ref (ad 44), .int v1, .int v2, .int v3, .int v4] (.inr (some (.int r))) X σ' := by
  refine sMet_of (by decide +kernel) (Nat.le_of_ble_eq_true rfl) hap hl0 ?_
  intro p e s m args below meth c ls B hr htab hl h
  exact k_X5_step_0 B hr _ _ _ _ _  hf _ _ _ h hl
set_option maxHeartbeats 4000000 in
set_option maxRecDepth 100000 in
theorem k_X5_thrown_0 {p : Program} {l : Launch} {e : Env} {s : State} {m : MethodId} {args : Array Value} {below : List Frame} {meth : Method} {c : Code} {D : va_G} {cy : Nat → ClassId} {ad : Nat → Nat} {X : sX} {r : Int32} (B : sB p l s m meth c args cX5_thrown 1 RX5 D cy ad) (hr : meth.sig.returnType = (some .int)) (σ : sM) (hf : f_X5_thrown σ = some r) : sGo p l e { frames := 0, cells := 0, slots := 0, locals := 0 } s m args below meth c D cy ad X 1 (sQ below args s 0 0 D cy ad (.inr (some (.int r))) X σ) σ 0 [(0, .ref (ad 44))] [] := by
  replace hf : (some (σ 44 20)) = some r := hf
  intro H locs ls h hl
  have hx := B.1
  have hb := B.2.1
  refine lv_aload_n hx hb dX5_thrown_0 rfl (lv_at hl 0 rfl) ?_
  refine g_get B h 44 (by decide) (C := RX5) (T := TX5) (N := 21) (M_row _) rfl hin_X5 20 (by decide) hw849 rfl rfl dX5_thrown_1 ?_
  cases hf
  exact sE_i B hr h dX5_thrown_4
set_option maxRecDepth 100000 in
theorem ok_X5_thrown {l : Launch} (hl0 : l.stackTraces = false) {D : va_G} {cy : Nat → ClassId} {ad : Nat → Nat} (hap : sAp ad) (X : sX) (σ : sM) {r : Int32} (hf : f_X5_thrown σ = some r) : sMet l yX5_thrown (sWs yX5_thrown cX5_thrown 1 (some .int)) 0 0 0 0 D cy ad X σ [.ref (ad 44)] (.inr (some (.int r))) X σ := by
  refine sMet_of (by decide +kernel) (Nat.le_of_ble_eq_true rfl) hap hl0 ?_
  intro p e s m args below meth c ls B hr htab hl h
  exact k_X5_thrown_0 B hr  _  hf _ _ _ h hl
set_option maxHeartbeats 4000000 in
set_option maxRecDepth 100000 in
theorem k_X5_value_26 {p : Program} {l : Launch} {e : Env} {s : State} {m : MethodId} {args : Array Value} {below : List Frame} {meth : Method} {c : Code} {D : va_G} {cy : Nat → ClassId} {ad : Nat → Nat} {X : sX} {r : Int32} {σ' : sM} (B : sB p l s m meth c args cX5_value 3 RX5 D cy ad) (hr : meth.sig.returnType = (some .int)) (v1 : Int32) (v2 : Int32) (vs1 : Int32) (σ : sM) (hf : b_X5_value_26 v1 v2 vs1 σ = some (r, σ')) : sGo p l e { frames := 2, cells := 0, slots := 0, locals := 45 } s m args below meth c D cy ad X 3 (sQ below args s 0 0 D cy ad (.inr (some (.int r))) X σ') σ 26 [(0, .ref (ad 44)), (1, .int v1), (2, .int v2)] [.int vs1, .ref (ad 44)] := by
  replace hf : (wthn (f_X5_refused vs1 σ) (fun vr5 σ5 => if vr5 = 0 then (rthn (f_X5_placeOf v1 v2 σ5) (fun vr7 => chk (inb (((60 : Int32) * v1) + vr7) 180) (some ((σ5 46 ((((60 : Int32) * v1) + vr7)).toNatClampNeg), σ5)))) else (some ((0 : Int32), σ5)))) = some (r, σ') := hf
  intro H locs ls h hl
  have hx := B.1
  have hb := B.2.1
  obtain ⟨vr5, σ5, hq5, hf⟩ := wthn_some hf
  refine sRetC1 (g_runV (k := 44) (T := TX5) (N := 21) B h (ok_X5_refused B.2.2.2.2.2.2.2.2 B.2.2.2.2.2.2.1 _ _ vs1 hq5) cw_X5_95 ⟨Nat.le_of_ble_eq_true rfl, Nat.le_of_ble_eq_true rfl⟩ (by decide) (M_row _) rfl rfl hl.1.symm rfl (Nat.le_of_ble_eq_true rfl) dX5_value_26 ⟨Nat.zero_le _, Nat.zero_le _⟩) h (fun H locs h => ?_)
  refine lv_if_eq (tgt := 34) hx hb dX5_value_29 (by decide) (fun c6 => ?_) (fun c6 => ?_)
  · rw [if_pos c6] at hf
    refine lv_aload_n hx hb dX5_value_34 rfl (lv_at hl 0 rfl) ?_
    refine g_get B h 44 (by decide) (C := RX5) (T := TX5) (N := 21) (M_row _) rfl hin_X5 1 (by decide) hw830 rfl rfl dX5_value_35 ?_
    refine lv_bipush (v := (60 : Int32)) hx hb dX5_value_38 (by decide) ?_
    refine lv_iload_n hx hb dX5_value_40 rfl (lv_at hl 1 rfl) ?_
    refine lv_imul hx hb dX5_value_41 ?_
    refine lv_aload_n hx hb dX5_value_42 rfl (lv_at hl 0 rfl) ?_
    refine lv_iload_n hx hb dX5_value_43 rfl (lv_at hl 1 rfl) ?_
    refine lv_iload_n hx hb dX5_value_44 rfl (lv_at hl 2 rfl) ?_
    obtain ⟨vr7, hq7, hf⟩ := rthn_some hf
    refine sRetC1 (g_runV (k := 44) (T := TX5) (N := 21) B h (ok_X5_placeOf B.2.2.2.2.2.2.2.2 B.2.2.2.2.2.2.1 _ _ v1 v2 hq7) cw_X5_68 ⟨Nat.le_of_ble_eq_true rfl, Nat.le_of_ble_eq_true rfl⟩ (by decide) (M_row _) rfl rfl hl.1.symm rfl (Nat.le_of_ble_eq_true rfl) dX5_value_45 ⟨Nat.zero_le _, Nat.zero_le _⟩) h (fun H locs h => ?_)
    refine lv_iadd hx hb dX5_value_48 ?_
    obtain ⟨c8, hf⟩ := chk_some hf
    refine g_iald B h 46 (by decide) (n := 180) (fun _ => rfl) (inb_in c8) dX5_value_49 ?_
    cases hf
    exact sE_i B hr h dX5_value_50
  · rw [if_neg c6] at hf
    refine lv_iconst (v := (0 : Int32)) hx hb dX5_value_32 (by decide) ?_
    cases hf
    exact sE_i B hr h dX5_value_33
set_option maxHeartbeats 4000000 in
set_option maxRecDepth 100000 in
theorem k_X5_value_0 {p : Program} {l : Launch} {e : Env} {s : State} {m : MethodId} {args : Array Value} {below : List Frame} {meth : Method} {c : Code} {D : va_G} {cy : Nat → ClassId} {ad : Nat → Nat} {X : sX} {r : Int32} {σ' : sM} (B : sB p l s m meth c args cX5_value 3 RX5 D cy ad) (hr : meth.sig.returnType = (some .int)) (v1 : Int32) (v2 : Int32) (σ : sM) (hf : f_X5_value v1 v2 σ = some (r, σ')) : sGo p l e { frames := 2, cells := 0, slots := 0, locals := 45 } s m args below meth c D cy ad X 3 (sQ below args s 0 0 D cy ad (.inr (some (.int r))) X σ') σ 0 [(0, .ref (ad 44)), (1, .int v1), (2, .int v2)] [] := by
  replace hf : (rthn (f_X5_isMap v1 σ) (fun vr1 => if vr1 = 0 then (b_X5_value_26 v1 v2 (1 : Int32) σ) else (rthn (f_X5_has v1 v2 σ) (fun vr3 => if vr3 = 0 then (b_X5_value_26 v1 v2 (2 : Int32) σ) else (b_X5_value_26 v1 v2 (0 : Int32) σ))))) = some (r, σ') := hf
  intro H locs ls h hl
  have hx := B.1
  have hb := B.2.1
  refine lv_aload_n hx hb dX5_value_0 rfl (lv_at hl 0 rfl) ?_
  refine lv_iload_n hx hb dX5_value_1 rfl (lv_at hl 1 rfl) ?_
  obtain ⟨vr1, hq1, hf⟩ := rthn_some hf
  refine sRetC1 (g_runS B h (ok_X5_isMap B.2.2.2.2.2.2.2.2 B.2.2.2.2.2.2.1 _ _ v1 hq1) cw_X5_87 ⟨Nat.le_of_ble_eq_true rfl, Nat.le_of_ble_eq_true rfl⟩ rfl hl.1.symm rfl (Nat.le_of_ble_eq_true rfl) dX5_value_2 ⟨Nat.zero_le _, Nat.zero_le _⟩) h (fun H locs h => ?_)
  refine lv_if_ne (tgt := 12) hx hb dX5_value_5 (by decide) (fun c2 => ?_) (fun c2 => ?_)
  · rw [if_neg c2] at hf
    refine lv_aload_n hx hb dX5_value_12 rfl (lv_at hl 0 rfl) ?_
    refine lv_iload_n hx hb dX5_value_13 rfl (lv_at hl 1 rfl) ?_
    refine lv_iload_n hx hb dX5_value_14 rfl (lv_at hl 2 rfl) ?_
    obtain ⟨vr3, hq3, hf⟩ := rthn_some hf
    refine sRetC1 (g_runV (k := 44) (T := TX5) (N := 21) B h (ok_X5_has B.2.2.2.2.2.2.2.2 B.2.2.2.2.2.2.1 _ _ v1 v2 hq3) cw_X5_91 ⟨Nat.le_of_ble_eq_true rfl, Nat.le_of_ble_eq_true rfl⟩ (by decide) (M_row _) rfl rfl hl.1.symm rfl (Nat.le_of_ble_eq_true rfl) dX5_value_15 ⟨Nat.zero_le _, Nat.zero_le _⟩) h (fun H locs h => ?_)
    refine lv_if_ne (tgt := 25) hx hb dX5_value_18 (by decide) (fun c4 => ?_) (fun c4 => ?_)
    · rw [if_neg c4] at hf
      refine lv_iconst (v := (0 : Int32)) hx hb dX5_value_25 (by decide) ?_
      exact k_X5_value_26 B hr  _ _ _ _ hf _ _ _ h (lv_sub hl [0, 1, 2] rfl)
    · rw [if_pos c4] at hf
      refine lv_iconst (v := (2 : Int32)) hx hb dX5_value_21 (by decide) ?_
      refine lv_goto (tgt := 26) hx hb dX5_value_22 (by decide) ?_
      exact k_X5_value_26 B hr  _ _ _ _ hf _ _ _ h (lv_sub hl [0, 1, 2] rfl)
  · rw [if_pos c2] at hf
    refine lv_iconst (v := (1 : Int32)) hx hb dX5_value_8 (by decide) ?_
    refine lv_goto (tgt := 26) hx hb dX5_value_9 (by decide) ?_
    exact k_X5_value_26 B hr  _ _ _ _ hf _ _ _ h (lv_sub hl [0, 1, 2] rfl)
set_option maxRecDepth 100000 in
theorem ok_X5_value {l : Launch} (hl0 : l.stackTraces = false) {D : va_G} {cy : Nat → ClassId} {ad : Nat → Nat} (hap : sAp ad) (X : sX) (σ : sM) (v1 : Int32) (v2 : Int32) {r : Int32} {σ' : sM} (hf : f_X5_value v1 v2 σ = some (r, σ')) : sMet l yX5_value (sWs yX5_value cX5_value 3 (some .int)) 2 45 0 0 D cy ad X σ [.ref (ad 44), .int v1, .int v2] (.inr (some (.int r))) X σ' := by
  refine sMet_of (by decide +kernel) (Nat.le_of_ble_eq_true rfl) hap hl0 ?_
  intro p e s m args below meth c ls B hr htab hl h
  exact k_X5_value_0 B hr _ _ _  hf _ _ _ h hl
set_option maxHeartbeats 4000000 in
set_option maxRecDepth 100000 in
theorem k_X5_viewClear_49 {p : Program} {l : Launch} {e : Env} {s : State} {m : MethodId} {args : Array Value} {below : List Frame} {meth : Method} {c : Code} {D : va_G} {cy : Nat → ClassId} {ad : Nat → Nat} {X : sX} {r : Int32} {σ' : sM} (B : sB p l s m meth c args cX5_viewClear 5 RX5 D cy ad) (hr : meth.sig.returnType = (some .int)) : ∀ (n : Nat) (v1 : Int32) (v2 : Int32) (v3 : Int32) (v4 : Int32) (σ : sM), b_X5_viewClear_49 n v1 v2 v3 v4 σ = some (r, σ') → sGo p l e { frames := 3, cells := 0, slots := 0, locals := 68 } s m args below meth c D cy ad X 5 (sQ below args s 0 0 D cy ad (.inr (some (.int r))) X σ') σ 49 [(0, .ref (ad 44)), (1, .int v1), (2, .int v2), (3, .int v3), (4, .int v4)] [] := by
  intro n
  induction n with
  | zero =>
    intro v1 v2 v3 v4 σ hf
    exact nomatch (show none = some (r, σ') from hf)
  | succ n ih =>
    intro v1 v2 v3 v4 σ hf
    replace hf : (if v2 ≤ v4 then (some (v2, σ)) else (chk (inb v1 4) (wthn (f_X5_takes (σ 49 (v1).toNatClampNeg) v3 σ) (fun _ σ11 => b_X5_viewClear_49 n v1 v2 v3 (v4 + 1) σ11)))) = some (r, σ') := hf
    intro H locs ls h hl
    have hx := B.1
    have hb := B.2.1
    refine lv_iload hx hb dX5_viewClear_49 (lv_at hl 4 rfl) ?_
    refine lv_iload_n hx hb dX5_viewClear_51 rfl (lv_at hl 2 rfl) ?_
    refine lv_icmp_ge (tgt := 72) hx hb dX5_viewClear_52 (by decide) (fun c9 => ?_) (fun c9 => ?_)
    · rw [if_pos c9] at hf
      refine lv_iload_n hx hb dX5_viewClear_72 rfl (lv_at hl 2 rfl) ?_
      cases hf
      exact sE_i B hr h dX5_viewClear_73
    · rw [if_neg c9] at hf
      refine lv_aload_n hx hb dX5_viewClear_55 rfl (lv_at hl 0 rfl) ?_
      refine lv_aload_n hx hb dX5_viewClear_56 rfl (lv_at hl 0 rfl) ?_
      refine g_get B h 44 (by decide) (C := RX5) (T := TX5) (N := 21) (M_row _) rfl hin_X5 4 (by decide) hw833 rfl rfl dX5_viewClear_57 ?_
      refine lv_iload_n hx hb dX5_viewClear_60 rfl (lv_at hl 1 rfl) ?_
      obtain ⟨c10, hf⟩ := chk_some hf
      refine g_iald B h 49 (by decide) (n := 4) (fun _ => rfl) (inb_in c10) dX5_viewClear_61 ?_
      refine lv_iload_n hx hb dX5_viewClear_62 rfl (lv_at hl 3 rfl) ?_
      obtain ⟨vr11, σ11, hq11, hf⟩ := wthn_some hf
      refine sRetC0 (g_runV (k := 44) (T := TX5) (N := 21) B h (ok_X5_takes B.2.2.2.2.2.2.2.2 B.2.2.2.2.2.2.1 _ _ (σ 49 (v1).toNatClampNeg) v3 hq11) cw_X5_79 ⟨Nat.le_of_ble_eq_true rfl, Nat.le_of_ble_eq_true rfl⟩ (by decide) (M_row _) rfl rfl hl.1.symm rfl (Nat.le_of_ble_eq_true rfl) dX5_viewClear_63 ⟨Nat.zero_le _, Nat.zero_le _⟩) h (fun H locs h => ?_)
      refine lv_iinc (v := (v4 + 1)) (lv' := [(4, .int (v4 + 1)), (0, .ref (ad 44)), (1, .int v1), (2, .int v2), (3, .int v3)]) hx hb dX5_viewClear_66 hl (k := 4) rfl rfl (by decide) rfl (fun ls hl => ?_)
      refine lv_goto (tgt := 49) hx hb dX5_viewClear_69 (by decide) ?_
      exact ih _ _ _ _ _ hf _ _ _ h (lv_sub hl [1, 2, 3, 4, 0] rfl)
set_option maxHeartbeats 4000000 in
set_option maxRecDepth 100000 in
theorem k_X5_viewClear_26 {p : Program} {l : Launch} {e : Env} {s : State} {m : MethodId} {args : Array Value} {below : List Frame} {meth : Method} {c : Code} {D : va_G} {cy : Nat → ClassId} {ad : Nat → Nat} {X : sX} {r : Int32} {σ' : sM} (B : sB p l s m meth c args cX5_viewClear 5 RX5 D cy ad) (hr : meth.sig.returnType = (some .int)) (v1 : Int32) (vs1 : Int32) (σ : sM) (hf : b_X5_viewClear_26 v1 vs1 σ = some (r, σ')) : sGo p l e { frames := 3, cells := 0, slots := 0, locals := 68 } s m args below meth c D cy ad X 5 (sQ below args s 0 0 D cy ad (.inr (some (.int r))) X σ') σ 26 [(0, .ref (ad 44)), (1, .int v1)] [.int vs1, .ref (ad 44)] := by
  replace hf : (wthn (f_X5_refused vs1 σ) (fun vr5 σ5 => if vr5 = 0 then (rthn (f_X5_manyOf v1 σ5) (fun vr7 => rthn (f_X5_firstOf v1 σ5) (fun vr8 => b_X5_viewClear_49 FU v1 vr7 vr8 (0 : Int32) σ5))) else (some ((0 : Int32), σ5)))) = some (r, σ') := hf
  intro H locs ls h hl
  have hx := B.1
  have hb := B.2.1
  obtain ⟨vr5, σ5, hq5, hf⟩ := wthn_some hf
  refine sRetC1 (g_runV (k := 44) (T := TX5) (N := 21) B h (ok_X5_refused B.2.2.2.2.2.2.2.2 B.2.2.2.2.2.2.1 _ _ vs1 hq5) cw_X5_95 ⟨Nat.le_of_ble_eq_true rfl, Nat.le_of_ble_eq_true rfl⟩ (by decide) (M_row _) rfl rfl hl.1.symm rfl (Nat.le_of_ble_eq_true rfl) dX5_viewClear_26 ⟨Nat.zero_le _, Nat.zero_le _⟩) h (fun H locs h => ?_)
  refine lv_if_eq (tgt := 34) hx hb dX5_viewClear_29 (by decide) (fun c6 => ?_) (fun c6 => ?_)
  · rw [if_pos c6] at hf
    refine lv_aload_n hx hb dX5_viewClear_34 rfl (lv_at hl 0 rfl) ?_
    refine lv_iload_n hx hb dX5_viewClear_35 rfl (lv_at hl 1 rfl) ?_
    obtain ⟨vr7, hq7, hf⟩ := rthn_some hf
    refine sRetC1 (g_runV (k := 44) (T := TX5) (N := 21) B h (ok_X5_manyOf B.2.2.2.2.2.2.2.2 B.2.2.2.2.2.2.1 _ _ v1 hq7) cw_X5_129 ⟨Nat.le_of_ble_eq_true rfl, Nat.le_of_ble_eq_true rfl⟩ (by decide) (M_row _) rfl rfl hl.1.symm rfl (Nat.le_of_ble_eq_true rfl) dX5_viewClear_36 ⟨Nat.zero_le _, Nat.zero_le _⟩) h (fun H locs h => ?_)
    refine lv_istore_n (lv' := [(2, .int vr7), (0, .ref (ad 44)), (1, .int v1)]) hx hb dX5_viewClear_39 rfl hl (by decide) rfl (fun ls hl => ?_)
    refine lv_aload_n hx hb dX5_viewClear_40 rfl (lv_at hl 1 rfl) ?_
    refine lv_iload_n hx hb dX5_viewClear_41 rfl (lv_at hl 2 rfl) ?_
    obtain ⟨vr8, hq8, hf⟩ := rthn_some hf
    refine sRetC1 (g_runV (k := 44) (T := TX5) (N := 21) B h (ok_X5_firstOf B.2.2.2.2.2.2.2.2 B.2.2.2.2.2.2.1 _ _ v1 hq8) cw_X5_116 ⟨Nat.le_of_ble_eq_true rfl, Nat.le_of_ble_eq_true rfl⟩ (by decide) (M_row _) rfl rfl hl.1.symm rfl (Nat.le_of_ble_eq_true rfl) dX5_viewClear_42 ⟨Nat.zero_le _, Nat.zero_le _⟩) h (fun H locs h => ?_)
    refine lv_istore_n (lv' := [(3, .int vr8), (2, .int vr7), (0, .ref (ad 44)), (1, .int v1)]) hx hb dX5_viewClear_45 rfl hl (by decide) rfl (fun ls hl => ?_)
    refine lv_iconst (v := (0 : Int32)) hx hb dX5_viewClear_46 (by decide) ?_
    refine lv_istore (lv' := [(4, .int (0 : Int32)), (3, .int vr8), (2, .int vr7), (0, .ref (ad 44)), (1, .int v1)]) hx hb dX5_viewClear_47 hl (by decide) rfl (fun ls hl => ?_)
    exact k_X5_viewClear_49 B hr  _ _ _ _ _ _ hf _ _ _ h (lv_sub hl [3, 4, 2, 1, 0] rfl)
  · rw [if_neg c6] at hf
    refine lv_iconst (v := (0 : Int32)) hx hb dX5_viewClear_32 (by decide) ?_
    cases hf
    exact sE_i B hr h dX5_viewClear_33
set_option maxHeartbeats 4000000 in
set_option maxRecDepth 100000 in
theorem k_X5_viewClear_0 {p : Program} {l : Launch} {e : Env} {s : State} {m : MethodId} {args : Array Value} {below : List Frame} {meth : Method} {c : Code} {D : va_G} {cy : Nat → ClassId} {ad : Nat → Nat} {X : sX} {r : Int32} {σ' : sM} (B : sB p l s m meth c args cX5_viewClear 5 RX5 D cy ad) (hr : meth.sig.returnType = (some .int)) (v1 : Int32) (σ : sM) (hf : f_X5_viewClear v1 σ = some (r, σ')) : sGo p l e { frames := 3, cells := 0, slots := 0, locals := 68 } s m args below meth c D cy ad X 5 (sQ below args s 0 0 D cy ad (.inr (some (.int r))) X σ') σ 0 [(0, .ref (ad 44)), (1, .int v1)] [] := by
  replace hf : (rthn (f_X5_isView v1 σ) (fun vr1 => if vr1 = 0 then (b_X5_viewClear_26 v1 (1 : Int32) σ) else (chk (inb v1 4) (if (σ 48 (v1).toNatClampNeg) = 0 then (b_X5_viewClear_26 v1 (2 : Int32) σ) else (b_X5_viewClear_26 v1 (0 : Int32) σ))))) = some (r, σ') := hf
  intro H locs ls h hl
  have hx := B.1
  have hb := B.2.1
  refine lv_aload_n hx hb dX5_viewClear_0 rfl (lv_at hl 0 rfl) ?_
  refine lv_iload_n hx hb dX5_viewClear_1 rfl (lv_at hl 1 rfl) ?_
  obtain ⟨vr1, hq1, hf⟩ := rthn_some hf
  refine sRetC1 (g_runS B h (ok_X5_isView B.2.2.2.2.2.2.2.2 B.2.2.2.2.2.2.1 _ _ v1 hq1) cw_X5_126 ⟨Nat.le_of_ble_eq_true rfl, Nat.le_of_ble_eq_true rfl⟩ rfl hl.1.symm rfl (Nat.le_of_ble_eq_true rfl) dX5_viewClear_2 ⟨Nat.zero_le _, Nat.zero_le _⟩) h (fun H locs h => ?_)
  refine lv_if_ne (tgt := 12) hx hb dX5_viewClear_5 (by decide) (fun c2 => ?_) (fun c2 => ?_)
  · rw [if_neg c2] at hf
    refine lv_aload_n hx hb dX5_viewClear_12 rfl (lv_at hl 0 rfl) ?_
    refine g_get B h 44 (by decide) (C := RX5) (T := TX5) (N := 21) (M_row _) rfl hin_X5 3 (by decide) hw832 rfl rfl dX5_viewClear_13 ?_
    refine lv_iload_n hx hb dX5_viewClear_16 rfl (lv_at hl 1 rfl) ?_
    obtain ⟨c3, hf⟩ := chk_some hf
    refine g_zald B h 48 (by decide) (n := 4) (fun _ => rfl) (inb_in c3) dX5_viewClear_17 ?_
    refine lv_if_ne (tgt := 25) hx hb dX5_viewClear_18 (by decide) (fun c4 => ?_) (fun c4 => ?_)
    · rw [if_neg c4] at hf
      refine lv_iconst (v := (0 : Int32)) hx hb dX5_viewClear_25 (by decide) ?_
      exact k_X5_viewClear_26 B hr  _ _ _ hf _ _ _ h (lv_sub hl [0, 1] rfl)
    · rw [if_pos c4] at hf
      refine lv_iconst (v := (2 : Int32)) hx hb dX5_viewClear_21 (by decide) ?_
      refine lv_goto (tgt := 26) hx hb dX5_viewClear_22 (by decide) ?_
      exact k_X5_viewClear_26 B hr  _ _ _ hf _ _ _ h (lv_sub hl [0, 1] rfl)
  · rw [if_pos c2] at hf
    refine lv_iconst (v := (1 : Int32)) hx hb dX5_viewClear_8 (by decide) ?_
    refine lv_goto (tgt := 26) hx hb dX5_viewClear_9 (by decide) ?_
    exact k_X5_viewClear_26 B hr  _ _ _ hf _ _ _ h (lv_sub hl [0, 1] rfl)
set_option maxRecDepth 100000 in
theorem ok_X5_viewClear {l : Launch} (hl0 : l.stackTraces = false) {D : va_G} {cy : Nat → ClassId} {ad : Nat → Nat} (hap : sAp ad) (X : sX) (σ : sM) (v1 : Int32) {r : Int32} {σ' : sM} (hf : f_X5_viewClear v1 σ = some (r, σ')) : sMet l yX5_viewClear (sWs yX5_viewClear cX5_viewClear 5 (some .int)) 3 68 0 0 D cy ad X σ [.ref (ad 44), .int v1] (.inr (some (.int r))) X σ' := by
  refine sMet_of (by decide +kernel) (Nat.le_of_ble_eq_true rfl) hap hl0 ?_
  intro p e s m args below meth c ls B hr htab hl h
  exact k_X5_viewClear_0 B hr _ _  hf _ _ _ h hl
set_option maxHeartbeats 4000000 in
set_option maxRecDepth 100000 in
theorem k_X5_viewEnd_34 {p : Program} {l : Launch} {e : Env} {s : State} {m : MethodId} {args : Array Value} {below : List Frame} {meth : Method} {c : Code} {D : va_G} {cy : Nat → ClassId} {ad : Nat → Nat} {X : sX} {r : Int32} {σ' : sM} (B : sB p l s m meth c args cX5_viewEnd 3 RX5 D cy ad) (hr : meth.sig.returnType = (some .int)) (v1 : Int32) (v2 : Int32) (vs1 : Int32) (σ : sM) (hf : b_X5_viewEnd_34 v1 v2 vs1 σ = some (r, σ')) : sGo p l e { frames := 3, cells := 0, slots := 0, locals := 68 } s m args below meth c D cy ad X 3 (sQ below args s 0 0 D cy ad (.inr (some (.int r))) X σ') σ 34 [(0, .ref (ad 44)), (1, .int v1), (2, .int v2)] [.int vs1, .ref (ad 44)] := by
  replace hf : (wthn (f_X5_refused vs1 σ) (fun vr7 σ7 => if vr7 = 0 then (chk (inb v1 4) (if v2 = 0 then (rthn (f_X5_firstOf v1 σ7) (fun vr11 => chk (inb (((60 : Int32) * (σ7 49 (v1).toNatClampNeg)) + vr11) 180) (some ((σ7 45 ((((60 : Int32) * (σ7 49 (v1).toNatClampNeg)) + vr11)).toNatClampNeg), σ7)))) else (rthn (f_X5_behindOf v1 σ7) (fun vr13 => chk (inb (((60 : Int32) * (σ7 49 (v1).toNatClampNeg)) + (vr13 - (1 : Int32))) 180) (some ((σ7 45 ((((60 : Int32) * (σ7 49 (v1).toNatClampNeg)) + (vr13 - (1 : Int32)))).toNatClampNeg), σ7)))))) else (some ((0 : Int32), σ7)))) = some (r, σ') := hf
  intro H locs ls h hl
  have hx := B.1
  have hb := B.2.1
  obtain ⟨vr7, σ7, hq7, hf⟩ := wthn_some hf
  refine sRetC1 (g_runV (k := 44) (T := TX5) (N := 21) B h (ok_X5_refused B.2.2.2.2.2.2.2.2 B.2.2.2.2.2.2.1 _ _ vs1 hq7) cw_X5_95 ⟨Nat.le_of_ble_eq_true rfl, Nat.le_of_ble_eq_true rfl⟩ (by decide) (M_row _) rfl rfl hl.1.symm rfl (Nat.le_of_ble_eq_true rfl) dX5_viewEnd_34 ⟨Nat.zero_le _, Nat.zero_le _⟩) h (fun H locs h => ?_)
  refine lv_if_eq (tgt := 42) hx hb dX5_viewEnd_37 (by decide) (fun c8 => ?_) (fun c8 => ?_)
  · rw [if_pos c8] at hf
    refine lv_aload_n hx hb dX5_viewEnd_42 rfl (lv_at hl 0 rfl) ?_
    refine g_get B h 44 (by decide) (C := RX5) (T := TX5) (N := 21) (M_row _) rfl hin_X5 0 (by decide) hw829 rfl rfl dX5_viewEnd_43 ?_
    refine lv_bipush (v := (60 : Int32)) hx hb dX5_viewEnd_46 (by decide) ?_
    refine lv_aload_n hx hb dX5_viewEnd_48 rfl (lv_at hl 0 rfl) ?_
    refine g_get B h 44 (by decide) (C := RX5) (T := TX5) (N := 21) (M_row _) rfl hin_X5 4 (by decide) hw833 rfl rfl dX5_viewEnd_49 ?_
    refine lv_iload_n hx hb dX5_viewEnd_52 rfl (lv_at hl 1 rfl) ?_
    obtain ⟨c9, hf⟩ := chk_some hf
    refine g_iald B h 49 (by decide) (n := 4) (fun _ => rfl) (inb_in c9) dX5_viewEnd_53 ?_
    refine lv_imul hx hb dX5_viewEnd_54 ?_
    refine lv_iload_n hx hb dX5_viewEnd_55 rfl (lv_at hl 2 rfl) ?_
    refine lv_if_eq (tgt := 69) hx hb dX5_viewEnd_56 (by decide) (fun c10 => ?_) (fun c10 => ?_)
    · rw [if_pos c10] at hf
      refine lv_aload_n hx hb dX5_viewEnd_69 rfl (lv_at hl 0 rfl) ?_
      refine lv_iload_n hx hb dX5_viewEnd_70 rfl (lv_at hl 1 rfl) ?_
      obtain ⟨vr11, hq11, hf⟩ := rthn_some hf
      refine sRetC1 (g_runV (k := 44) (T := TX5) (N := 21) B h (ok_X5_firstOf B.2.2.2.2.2.2.2.2 B.2.2.2.2.2.2.1 _ _ v1 hq11) cw_X5_116 ⟨Nat.le_of_ble_eq_true rfl, Nat.le_of_ble_eq_true rfl⟩ (by decide) (M_row _) rfl rfl hl.1.symm rfl (Nat.le_of_ble_eq_true rfl) dX5_viewEnd_71 ⟨Nat.zero_le _, Nat.zero_le _⟩) h (fun H locs h => ?_)
      refine lv_iadd hx hb dX5_viewEnd_74 ?_
      obtain ⟨c12, hf⟩ := chk_some hf
      refine g_iald B h 45 (by decide) (n := 180) (fun _ => rfl) (inb_in c12) dX5_viewEnd_75 ?_
      cases hf
      exact sE_i B hr h dX5_viewEnd_76
    · rw [if_neg c10] at hf
      refine lv_aload_n hx hb dX5_viewEnd_59 rfl (lv_at hl 0 rfl) ?_
      refine lv_iload_n hx hb dX5_viewEnd_60 rfl (lv_at hl 1 rfl) ?_
      obtain ⟨vr13, hq13, hf⟩ := rthn_some hf
      refine sRetC1 (g_runV (k := 44) (T := TX5) (N := 21) B h (ok_X5_behindOf B.2.2.2.2.2.2.2.2 B.2.2.2.2.2.2.1 _ _ v1 hq13) cw_X5_123 ⟨Nat.le_of_ble_eq_true rfl, Nat.le_of_ble_eq_true rfl⟩ (by decide) (M_row _) rfl rfl hl.1.symm rfl (Nat.le_of_ble_eq_true rfl) dX5_viewEnd_61 ⟨Nat.zero_le _, Nat.zero_le _⟩) h (fun H locs h => ?_)
      refine lv_iconst (v := (1 : Int32)) hx hb dX5_viewEnd_64 (by decide) ?_
      refine lv_isub hx hb dX5_viewEnd_65 ?_
      refine lv_goto (tgt := 74) hx hb dX5_viewEnd_66 (by decide) ?_
      refine lv_iadd hx hb dX5_viewEnd_74 ?_
      obtain ⟨c14, hf⟩ := chk_some hf
      refine g_iald B h 45 (by decide) (n := 180) (fun _ => rfl) (inb_in c14) dX5_viewEnd_75 ?_
      cases hf
      exact sE_i B hr h dX5_viewEnd_76
  · rw [if_neg c8] at hf
    refine lv_iconst (v := (0 : Int32)) hx hb dX5_viewEnd_40 (by decide) ?_
    cases hf
    exact sE_i B hr h dX5_viewEnd_41
set_option maxHeartbeats 4000000 in
set_option maxRecDepth 100000 in
theorem k_X5_viewEnd_0 {p : Program} {l : Launch} {e : Env} {s : State} {m : MethodId} {args : Array Value} {below : List Frame} {meth : Method} {c : Code} {D : va_G} {cy : Nat → ClassId} {ad : Nat → Nat} {X : sX} {r : Int32} {σ' : sM} (B : sB p l s m meth c args cX5_viewEnd 3 RX5 D cy ad) (hr : meth.sig.returnType = (some .int)) (v1 : Int32) (v2 : Int32) (σ : sM) (hf : f_X5_viewEnd v1 v2 σ = some (r, σ')) : sGo p l e { frames := 3, cells := 0, slots := 0, locals := 68 } s m args below meth c D cy ad X 3 (sQ below args s 0 0 D cy ad (.inr (some (.int r))) X σ') σ 0 [(0, .ref (ad 44)), (1, .int v1), (2, .int v2)] [] := by
  replace hf : (rthn (f_X5_isView v1 σ) (fun vr1 => if vr1 = 0 then (b_X5_viewEnd_34 v1 v2 (1 : Int32) σ) else (chk (inb v1 4) (if (σ 48 (v1).toNatClampNeg) = 0 then (b_X5_viewEnd_34 v1 v2 (2 : Int32) σ) else (rthn (f_X5_manyOf v1 σ) (fun vr5 => if vr5 = 0 then (b_X5_viewEnd_34 v1 v2 (2 : Int32) σ) else (b_X5_viewEnd_34 v1 v2 (0 : Int32) σ))))))) = some (r, σ') := hf
  intro H locs ls h hl
  have hx := B.1
  have hb := B.2.1
  refine lv_aload_n hx hb dX5_viewEnd_0 rfl (lv_at hl 0 rfl) ?_
  refine lv_iload_n hx hb dX5_viewEnd_1 rfl (lv_at hl 1 rfl) ?_
  obtain ⟨vr1, hq1, hf⟩ := rthn_some hf
  refine sRetC1 (g_runS B h (ok_X5_isView B.2.2.2.2.2.2.2.2 B.2.2.2.2.2.2.1 _ _ v1 hq1) cw_X5_126 ⟨Nat.le_of_ble_eq_true rfl, Nat.le_of_ble_eq_true rfl⟩ rfl hl.1.symm rfl (Nat.le_of_ble_eq_true rfl) dX5_viewEnd_2 ⟨Nat.zero_le _, Nat.zero_le _⟩) h (fun H locs h => ?_)
  refine lv_if_ne (tgt := 12) hx hb dX5_viewEnd_5 (by decide) (fun c2 => ?_) (fun c2 => ?_)
  · rw [if_neg c2] at hf
    refine lv_aload_n hx hb dX5_viewEnd_12 rfl (lv_at hl 0 rfl) ?_
    refine g_get B h 44 (by decide) (C := RX5) (T := TX5) (N := 21) (M_row _) rfl hin_X5 3 (by decide) hw832 rfl rfl dX5_viewEnd_13 ?_
    refine lv_iload_n hx hb dX5_viewEnd_16 rfl (lv_at hl 1 rfl) ?_
    obtain ⟨c3, hf⟩ := chk_some hf
    refine g_zald B h 48 (by decide) (n := 4) (fun _ => rfl) (inb_in c3) dX5_viewEnd_17 ?_
    refine lv_if_eq (tgt := 29) hx hb dX5_viewEnd_18 (by decide) (fun c4 => ?_) (fun c4 => ?_)
    · rw [if_pos c4] at hf
      refine lv_iconst (v := (2 : Int32)) hx hb dX5_viewEnd_29 (by decide) ?_
      refine lv_goto (tgt := 34) hx hb dX5_viewEnd_30 (by decide) ?_
      exact k_X5_viewEnd_34 B hr  _ _ _ _ hf _ _ _ h (lv_sub hl [0, 1, 2] rfl)
    · rw [if_neg c4] at hf
      refine lv_aload_n hx hb dX5_viewEnd_21 rfl (lv_at hl 0 rfl) ?_
      refine lv_iload_n hx hb dX5_viewEnd_22 rfl (lv_at hl 1 rfl) ?_
      obtain ⟨vr5, hq5, hf⟩ := rthn_some hf
      refine sRetC1 (g_runV (k := 44) (T := TX5) (N := 21) B h (ok_X5_manyOf B.2.2.2.2.2.2.2.2 B.2.2.2.2.2.2.1 _ _ v1 hq5) cw_X5_129 ⟨Nat.le_of_ble_eq_true rfl, Nat.le_of_ble_eq_true rfl⟩ (by decide) (M_row _) rfl rfl hl.1.symm rfl (Nat.le_of_ble_eq_true rfl) dX5_viewEnd_23 ⟨Nat.zero_le _, Nat.zero_le _⟩) h (fun H locs h => ?_)
      refine lv_if_ne (tgt := 33) hx hb dX5_viewEnd_26 (by decide) (fun c6 => ?_) (fun c6 => ?_)
      · rw [if_neg c6] at hf
        refine lv_iconst (v := (0 : Int32)) hx hb dX5_viewEnd_33 (by decide) ?_
        exact k_X5_viewEnd_34 B hr  _ _ _ _ hf _ _ _ h (lv_sub hl [0, 1, 2] rfl)
      · rw [if_pos c6] at hf
        refine lv_iconst (v := (2 : Int32)) hx hb dX5_viewEnd_29 (by decide) ?_
        refine lv_goto (tgt := 34) hx hb dX5_viewEnd_30 (by decide) ?_
        exact k_X5_viewEnd_34 B hr  _ _ _ _ hf _ _ _ h (lv_sub hl [0, 1, 2] rfl)
  · rw [if_pos c2] at hf
    refine lv_iconst (v := (1 : Int32)) hx hb dX5_viewEnd_8 (by decide) ?_
    refine lv_goto (tgt := 34) hx hb dX5_viewEnd_9 (by decide) ?_
    exact k_X5_viewEnd_34 B hr  _ _ _ _ hf _ _ _ h (lv_sub hl [0, 1, 2] rfl)
set_option maxRecDepth 100000 in
theorem ok_X5_viewEnd {l : Launch} (hl0 : l.stackTraces = false) {D : va_G} {cy : Nat → ClassId} {ad : Nat → Nat} (hap : sAp ad) (X : sX) (σ : sM) (v1 : Int32) (v2 : Int32) {r : Int32} {σ' : sM} (hf : f_X5_viewEnd v1 v2 σ = some (r, σ')) : sMet l yX5_viewEnd (sWs yX5_viewEnd cX5_viewEnd 3 (some .int)) 3 68 0 0 D cy ad X σ [.ref (ad 44), .int v1, .int v2] (.inr (some (.int r))) X σ' := by
  refine sMet_of (by decide +kernel) (Nat.le_of_ble_eq_true rfl) hap hl0 ?_
  intro p e s m args below meth c ls B hr htab hl h
  exact k_X5_viewEnd_0 B hr _ _ _  hf _ _ _ h hl
set_option maxHeartbeats 4000000 in
set_option maxRecDepth 100000 in
theorem k_X5_viewNearAt_0 {p : Program} {l : Launch} {e : Env} {s : State} {m : MethodId} {args : Array Value} {below : List Frame} {meth : Method} {c : Code} {D : va_G} {cy : Nat → ClassId} {ad : Nat → Nat} {X : sX} {r : Int32} (B : sB p l s m meth c args cX5_viewNearAt 4 RX5 D cy ad) (hr : meth.sig.returnType = (some .int)) (v1 : Int32) (v2 : Int32) (v3 : Int32) (σ : sM) (hf : f_X5_viewNearAt v1 v2 v3 σ = some r) : sGo p l e { frames := 2, cells := 0, slots := 0, locals := 50 } s m args below meth c D cy ad X 4 (sQ below args s 0 0 D cy ad (.inr (some (.int r))) X σ) σ 0 [(0, .ref (ad 44)), (1, .int v1), (2, .int v2), (3, .int v3)] [] := by
  replace hf : (chk (inb v1 4) (rthn (f_X5_firstOf v1 σ) (fun vr2 => rthn (f_X5_behindOf v1 σ) (fun vr3 => rthn (f_X5_nearAt (σ 49 (v1).toNatClampNeg) vr2 vr3 v2 v3 σ) (fun vr4 => some vr4))))) = some r := hf
  intro H locs ls h hl
  have hx := B.1
  have hb := B.2.1
  refine lv_aload_n hx hb dX5_viewNearAt_0 rfl (lv_at hl 0 rfl) ?_
  refine lv_aload_n hx hb dX5_viewNearAt_1 rfl (lv_at hl 0 rfl) ?_
  refine g_get B h 44 (by decide) (C := RX5) (T := TX5) (N := 21) (M_row _) rfl hin_X5 4 (by decide) hw833 rfl rfl dX5_viewNearAt_2 ?_
  refine lv_iload_n hx hb dX5_viewNearAt_5 rfl (lv_at hl 1 rfl) ?_
  obtain ⟨c1, hf⟩ := chk_some hf
  refine g_iald B h 49 (by decide) (n := 4) (fun _ => rfl) (inb_in c1) dX5_viewNearAt_6 ?_
  refine lv_aload_n hx hb dX5_viewNearAt_7 rfl (lv_at hl 0 rfl) ?_
  refine lv_iload_n hx hb dX5_viewNearAt_8 rfl (lv_at hl 1 rfl) ?_
  obtain ⟨vr2, hq2, hf⟩ := rthn_some hf
  refine sRetC1 (g_runV (k := 44) (T := TX5) (N := 21) B h (ok_X5_firstOf B.2.2.2.2.2.2.2.2 B.2.2.2.2.2.2.1 _ _ v1 hq2) cw_X5_116 ⟨Nat.le_of_ble_eq_true rfl, Nat.le_of_ble_eq_true rfl⟩ (by decide) (M_row _) rfl rfl hl.1.symm rfl (Nat.le_of_ble_eq_true rfl) dX5_viewNearAt_9 ⟨Nat.zero_le _, Nat.zero_le _⟩) h (fun H locs h => ?_)
  refine lv_aload_n hx hb dX5_viewNearAt_12 rfl (lv_at hl 0 rfl) ?_
  refine lv_iload_n hx hb dX5_viewNearAt_13 rfl (lv_at hl 1 rfl) ?_
  obtain ⟨vr3, hq3, hf⟩ := rthn_some hf
  refine sRetC1 (g_runV (k := 44) (T := TX5) (N := 21) B h (ok_X5_behindOf B.2.2.2.2.2.2.2.2 B.2.2.2.2.2.2.1 _ _ v1 hq3) cw_X5_123 ⟨Nat.le_of_ble_eq_true rfl, Nat.le_of_ble_eq_true rfl⟩ (by decide) (M_row _) rfl rfl hl.1.symm rfl (Nat.le_of_ble_eq_true rfl) dX5_viewNearAt_14 ⟨Nat.zero_le _, Nat.zero_le _⟩) h (fun H locs h => ?_)
  refine lv_iload_n hx hb dX5_viewNearAt_17 rfl (lv_at hl 2 rfl) ?_
  refine lv_iload_n hx hb dX5_viewNearAt_18 rfl (lv_at hl 3 rfl) ?_
  obtain ⟨vr4, hq4, hf⟩ := rthn_some hf
  refine sRetC1 (g_runV (k := 44) (T := TX5) (N := 21) B h (ok_X5_nearAt B.2.2.2.2.2.2.2.2 B.2.2.2.2.2.2.1 _ _ (σ 49 (v1).toNatClampNeg) vr2 vr3 v2 v3 hq4) cw_X5_106 ⟨Nat.le_of_ble_eq_true rfl, Nat.le_of_ble_eq_true rfl⟩ (by decide) (M_row _) rfl rfl hl.1.symm rfl (Nat.le_of_ble_eq_true rfl) dX5_viewNearAt_19 ⟨Nat.zero_le _, Nat.zero_le _⟩) h (fun H locs h => ?_)
  cases hf
  exact sE_i B hr h dX5_viewNearAt_22
set_option maxRecDepth 100000 in
theorem ok_X5_viewNearAt {l : Launch} (hl0 : l.stackTraces = false) {D : va_G} {cy : Nat → ClassId} {ad : Nat → Nat} (hap : sAp ad) (X : sX) (σ : sM) (v1 : Int32) (v2 : Int32) (v3 : Int32) {r : Int32} (hf : f_X5_viewNearAt v1 v2 v3 σ = some r) : sMet l yX5_viewNearAt (sWs yX5_viewNearAt cX5_viewNearAt 4 (some .int)) 2 50 0 0 D cy ad X σ [.ref (ad 44), .int v1, .int v2, .int v3] (.inr (some (.int r))) X σ := by
  refine sMet_of (by decide +kernel) (Nat.le_of_ble_eq_true rfl) hap hl0 ?_
  intro p e s m args below meth c ls B hr htab hl h
  exact k_X5_viewNearAt_0 B hr _ _ _ _  hf _ _ _ h hl
set_option maxHeartbeats 4000000 in
set_option maxRecDepth 100000 in
theorem k_X5_viewNear_47 {p : Program} {l : Launch} {e : Env} {s : State} {m : MethodId} {args : Array Value} {below : List Frame} {meth : Method} {c : Code} {D : va_G} {cy : Nat → ClassId} {ad : Nat → Nat} {X : sX} {r : Int32} {σ' : sM} (B : sB p l s m meth c args cX5_viewNear 4 RX5 D cy ad) (hr : meth.sig.returnType = (some .int)) (v1 : Int32) (v2 : Int32) (v3 : Int32) (vs1 : Int32) (σ : sM) (hf : b_X5_viewNear_47 v1 v2 v3 vs1 σ = some (r, σ')) : sGo p l e { frames := 3, cells := 0, slots := 0, locals := 73 } s m args below meth c D cy ad X 4 (sQ below args s 0 0 D cy ad (.inr (some (.int r))) X σ') σ 47 [(0, .ref (ad 44)), (1, .int v1), (2, .int v2), (3, .int v3)] [.int vs1, .ref (ad 44)] := by
  replace hf : (wthn (f_X5_refused vs1 σ) (fun vr9 σ9 => if vr9 = 0 then (chk (inb v1 4) (rthn (f_X5_viewNearAt v1 v2 v3 σ9) (fun vr12 => chk (inb (((60 : Int32) * (σ9 49 (v1).toNatClampNeg)) + vr12) 180) (some ((σ9 45 ((((60 : Int32) * (σ9 49 (v1).toNatClampNeg)) + vr12)).toNatClampNeg), σ9))))) else (some ((0 : Int32), σ9)))) = some (r, σ') := hf
  intro H locs ls h hl
  have hx := B.1
  have hb := B.2.1
  obtain ⟨vr9, σ9, hq9, hf⟩ := wthn_some hf
  refine sRetC1 (g_runV (k := 44) (T := TX5) (N := 21) B h (ok_X5_refused B.2.2.2.2.2.2.2.2 B.2.2.2.2.2.2.1 _ _ vs1 hq9) cw_X5_95 ⟨Nat.le_of_ble_eq_true rfl, Nat.le_of_ble_eq_true rfl⟩ (by decide) (M_row _) rfl rfl hl.1.symm rfl (Nat.le_of_ble_eq_true rfl) dX5_viewNear_47 ⟨Nat.zero_le _, Nat.zero_le _⟩) h (fun H locs h => ?_)
  refine lv_if_eq (tgt := 55) hx hb dX5_viewNear_50 (by decide) (fun c10 => ?_) (fun c10 => ?_)
  · rw [if_pos c10] at hf
    refine lv_aload_n hx hb dX5_viewNear_55 rfl (lv_at hl 0 rfl) ?_
    refine g_get B h 44 (by decide) (C := RX5) (T := TX5) (N := 21) (M_row _) rfl hin_X5 0 (by decide) hw829 rfl rfl dX5_viewNear_56 ?_
    refine lv_bipush (v := (60 : Int32)) hx hb dX5_viewNear_59 (by decide) ?_
    refine lv_aload_n hx hb dX5_viewNear_61 rfl (lv_at hl 0 rfl) ?_
    refine g_get B h 44 (by decide) (C := RX5) (T := TX5) (N := 21) (M_row _) rfl hin_X5 4 (by decide) hw833 rfl rfl dX5_viewNear_62 ?_
    refine lv_iload_n hx hb dX5_viewNear_65 rfl (lv_at hl 1 rfl) ?_
    obtain ⟨c11, hf⟩ := chk_some hf
    refine g_iald B h 49 (by decide) (n := 4) (fun _ => rfl) (inb_in c11) dX5_viewNear_66 ?_
    refine lv_imul hx hb dX5_viewNear_67 ?_
    refine lv_aload_n hx hb dX5_viewNear_68 rfl (lv_at hl 0 rfl) ?_
    refine lv_iload_n hx hb dX5_viewNear_69 rfl (lv_at hl 1 rfl) ?_
    refine lv_iload_n hx hb dX5_viewNear_70 rfl (lv_at hl 2 rfl) ?_
    refine lv_iload_n hx hb dX5_viewNear_71 rfl (lv_at hl 3 rfl) ?_
    obtain ⟨vr12, hq12, hf⟩ := rthn_some hf
    refine sRetC1 (g_runV (k := 44) (T := TX5) (N := 21) B h (ok_X5_viewNearAt B.2.2.2.2.2.2.2.2 B.2.2.2.2.2.2.1 _ _ v1 v2 v3 hq12) cw_X5_132 ⟨Nat.le_of_ble_eq_true rfl, Nat.le_of_ble_eq_true rfl⟩ (by decide) (M_row _) rfl rfl hl.1.symm rfl (Nat.le_of_ble_eq_true rfl) dX5_viewNear_72 ⟨Nat.zero_le _, Nat.zero_le _⟩) h (fun H locs h => ?_)
    refine lv_iadd hx hb dX5_viewNear_75 ?_
    obtain ⟨c13, hf⟩ := chk_some hf
    refine g_iald B h 45 (by decide) (n := 180) (fun _ => rfl) (inb_in c13) dX5_viewNear_76 ?_
    cases hf
    exact sE_i B hr h dX5_viewNear_77
  · rw [if_neg c10] at hf
    refine lv_iconst (v := (0 : Int32)) hx hb dX5_viewNear_53 (by decide) ?_
    cases hf
    exact sE_i B hr h dX5_viewNear_54
set_option maxHeartbeats 4000000 in
set_option maxRecDepth 100000 in
theorem k_X5_viewNear_0 {p : Program} {l : Launch} {e : Env} {s : State} {m : MethodId} {args : Array Value} {below : List Frame} {meth : Method} {c : Code} {D : va_G} {cy : Nat → ClassId} {ad : Nat → Nat} {X : sX} {r : Int32} {σ' : sM} (B : sB p l s m meth c args cX5_viewNear 4 RX5 D cy ad) (hr : meth.sig.returnType = (some .int)) (v1 : Int32) (v2 : Int32) (v3 : Int32) (σ : sM) (hf : f_X5_viewNear v1 v2 v3 σ = some (r, σ')) : sGo p l e { frames := 3, cells := 0, slots := 0, locals := 73 } s m args below meth c D cy ad X 4 (sQ below args s 0 0 D cy ad (.inr (some (.int r))) X σ') σ 0 [(0, .ref (ad 44)), (1, .int v1), (2, .int v2), (3, .int v3)] [] := by
  replace hf : (rthn (f_X5_isView v1 σ) (fun vr1 => if vr1 = 0 then (b_X5_viewNear_47 v1 v2 v3 (1 : Int32) σ) else (rthn (f_X5_isWay v3 σ) (fun vr3 => if vr3 = 0 then (b_X5_viewNear_47 v1 v2 v3 (2 : Int32) σ) else (chk (inb v1 4) (if (σ 48 (v1).toNatClampNeg) = 0 then (b_X5_viewNear_47 v1 v2 v3 (3 : Int32) σ) else (rthn (f_X5_viewNearAt v1 v2 v3 σ) (fun vr7 => if 0 ≤ vr7 then (b_X5_viewNear_47 v1 v2 v3 (0 : Int32) σ) else (b_X5_viewNear_47 v1 v2 v3 (3 : Int32) σ))))))))) = some (r, σ') := hf
  intro H locs ls h hl
  have hx := B.1
  have hb := B.2.1
  refine lv_aload_n hx hb dX5_viewNear_0 rfl (lv_at hl 0 rfl) ?_
  refine lv_iload_n hx hb dX5_viewNear_1 rfl (lv_at hl 1 rfl) ?_
  obtain ⟨vr1, hq1, hf⟩ := rthn_some hf
  refine sRetC1 (g_runS B h (ok_X5_isView B.2.2.2.2.2.2.2.2 B.2.2.2.2.2.2.1 _ _ v1 hq1) cw_X5_126 ⟨Nat.le_of_ble_eq_true rfl, Nat.le_of_ble_eq_true rfl⟩ rfl hl.1.symm rfl (Nat.le_of_ble_eq_true rfl) dX5_viewNear_2 ⟨Nat.zero_le _, Nat.zero_le _⟩) h (fun H locs h => ?_)
  refine lv_if_ne (tgt := 12) hx hb dX5_viewNear_5 (by decide) (fun c2 => ?_) (fun c2 => ?_)
  · rw [if_neg c2] at hf
    refine lv_iload_n hx hb dX5_viewNear_12 rfl (lv_at hl 3 rfl) ?_
    obtain ⟨vr3, hq3, hf⟩ := rthn_some hf
    refine sRetC1 (g_runS B h (ok_X5_isWay B.2.2.2.2.2.2.2.2 B.2.2.2.2.2.2.1 _ _ v3 hq3) cw_X5_102 ⟨Nat.le_of_ble_eq_true rfl, Nat.le_of_ble_eq_true rfl⟩ rfl hl.1.symm rfl (Nat.le_of_ble_eq_true rfl) dX5_viewNear_13 ⟨Nat.zero_le _, Nat.zero_le _⟩) h (fun H locs h => ?_)
    refine lv_if_ne (tgt := 23) hx hb dX5_viewNear_16 (by decide) (fun c4 => ?_) (fun c4 => ?_)
    · rw [if_neg c4] at hf
      refine lv_aload_n hx hb dX5_viewNear_23 rfl (lv_at hl 0 rfl) ?_
      refine g_get B h 44 (by decide) (C := RX5) (T := TX5) (N := 21) (M_row _) rfl hin_X5 3 (by decide) hw832 rfl rfl dX5_viewNear_24 ?_
      refine lv_iload_n hx hb dX5_viewNear_27 rfl (lv_at hl 1 rfl) ?_
      obtain ⟨c5, hf⟩ := chk_some hf
      refine g_zald B h 48 (by decide) (n := 4) (fun _ => rfl) (inb_in c5) dX5_viewNear_28 ?_
      refine lv_if_eq (tgt := 42) hx hb dX5_viewNear_29 (by decide) (fun c6 => ?_) (fun c6 => ?_)
      · rw [if_pos c6] at hf
        refine lv_iconst (v := (3 : Int32)) hx hb dX5_viewNear_42 (by decide) ?_
        refine lv_goto (tgt := 47) hx hb dX5_viewNear_43 (by decide) ?_
        exact k_X5_viewNear_47 B hr  _ _ _ _ _ hf _ _ _ h (lv_sub hl [0, 1, 2, 3] rfl)
      · rw [if_neg c6] at hf
        refine lv_aload_n hx hb dX5_viewNear_32 rfl (lv_at hl 0 rfl) ?_
        refine lv_iload_n hx hb dX5_viewNear_33 rfl (lv_at hl 1 rfl) ?_
        refine lv_iload_n hx hb dX5_viewNear_34 rfl (lv_at hl 2 rfl) ?_
        refine lv_iload_n hx hb dX5_viewNear_35 rfl (lv_at hl 3 rfl) ?_
        obtain ⟨vr7, hq7, hf⟩ := rthn_some hf
        refine sRetC1 (g_runV (k := 44) (T := TX5) (N := 21) B h (ok_X5_viewNearAt B.2.2.2.2.2.2.2.2 B.2.2.2.2.2.2.1 _ _ v1 v2 v3 hq7) cw_X5_132 ⟨Nat.le_of_ble_eq_true rfl, Nat.le_of_ble_eq_true rfl⟩ (by decide) (M_row _) rfl rfl hl.1.symm rfl (Nat.le_of_ble_eq_true rfl) dX5_viewNear_36 ⟨Nat.zero_le _, Nat.zero_le _⟩) h (fun H locs h => ?_)
        refine lv_if_ge (tgt := 46) hx hb dX5_viewNear_39 (by decide) (fun c8 => ?_) (fun c8 => ?_)
        · rw [if_pos c8] at hf
          refine lv_iconst (v := (0 : Int32)) hx hb dX5_viewNear_46 (by decide) ?_
          exact k_X5_viewNear_47 B hr  _ _ _ _ _ hf _ _ _ h (lv_sub hl [0, 1, 2, 3] rfl)
        · rw [if_neg c8] at hf
          refine lv_iconst (v := (3 : Int32)) hx hb dX5_viewNear_42 (by decide) ?_
          refine lv_goto (tgt := 47) hx hb dX5_viewNear_43 (by decide) ?_
          exact k_X5_viewNear_47 B hr  _ _ _ _ _ hf _ _ _ h (lv_sub hl [0, 1, 2, 3] rfl)
    · rw [if_pos c4] at hf
      refine lv_iconst (v := (2 : Int32)) hx hb dX5_viewNear_19 (by decide) ?_
      refine lv_goto (tgt := 47) hx hb dX5_viewNear_20 (by decide) ?_
      exact k_X5_viewNear_47 B hr  _ _ _ _ _ hf _ _ _ h (lv_sub hl [0, 1, 2, 3] rfl)
  · rw [if_pos c2] at hf
    refine lv_iconst (v := (1 : Int32)) hx hb dX5_viewNear_8 (by decide) ?_
    refine lv_goto (tgt := 47) hx hb dX5_viewNear_9 (by decide) ?_
    exact k_X5_viewNear_47 B hr  _ _ _ _ _ hf _ _ _ h (lv_sub hl [0, 1, 2, 3] rfl)
set_option maxRecDepth 100000 in
theorem ok_X5_viewNear {l : Launch} (hl0 : l.stackTraces = false) {D : va_G} {cy : Nat → ClassId} {ad : Nat → Nat} (hap : sAp ad) (X : sX) (σ : sM) (v1 : Int32) (v2 : Int32) (v3 : Int32) {r : Int32} {σ' : sM} (hf : f_X5_viewNear v1 v2 v3 σ = some (r, σ')) : sMet l yX5_viewNear (sWs yX5_viewNear cX5_viewNear 4 (some .int)) 3 73 0 0 D cy ad X σ [.ref (ad 44), .int v1, .int v2, .int v3] (.inr (some (.int r))) X σ' := by
  refine sMet_of (by decide +kernel) (Nat.le_of_ble_eq_true rfl) hap hl0 ?_
  intro p e s m args below meth c ls B hr htab hl h
  exact k_X5_viewNear_0 B hr _ _ _ _  hf _ _ _ h hl
set_option maxHeartbeats 4000000 in
set_option maxRecDepth 100000 in
theorem k_X5_viewPoll_34 {p : Program} {l : Launch} {e : Env} {s : State} {m : MethodId} {args : Array Value} {below : List Frame} {meth : Method} {c : Code} {D : va_G} {cy : Nat → ClassId} {ad : Nat → Nat} {X : sX} {r : Int32} {σ' : sM} (B : sB p l s m meth c args cX5_viewPoll 3 RX5 D cy ad) (hr : meth.sig.returnType = (some .int)) (v1 : Int32) (v2 : Int32) (vs1 : Int32) (σ : sM) (hf : b_X5_viewPoll_34 v1 v2 vs1 σ = some (r, σ')) : sGo p l e { frames := 3, cells := 0, slots := 0, locals := 68 } s m args below meth c D cy ad X 3 (sQ below args s 0 0 D cy ad (.inr (some (.int r))) X σ') σ 34 [(0, .ref (ad 44)), (1, .int v1), (2, .int v2)] [.int vs1, .ref (ad 44)] := by
  replace hf : (wthn (f_X5_refused vs1 σ) (fun vr7 σ7 => if vr7 = 0 then (chk (inb v1 4) (if v2 = 0 then (rthn (f_X5_firstOf v1 σ7) (fun vr11 => wthn (f_X5_pollsAt (σ7 49 (v1).toNatClampNeg) vr11 σ7) (fun vr12 σ12 => some (vr12, σ12)))) else (rthn (f_X5_behindOf v1 σ7) (fun vr13 => wthn (f_X5_pollsAt (σ7 49 (v1).toNatClampNeg) (vr13 - (1 : Int32)) σ7) (fun vr14 σ14 => some (vr14, σ14)))))) else (some ((0 : Int32), σ7)))) = some (r, σ') := hf
  intro H locs ls h hl
  have hx := B.1
  have hb := B.2.1
  obtain ⟨vr7, σ7, hq7, hf⟩ := wthn_some hf
  refine sRetC1 (g_runV (k := 44) (T := TX5) (N := 21) B h (ok_X5_refused B.2.2.2.2.2.2.2.2 B.2.2.2.2.2.2.1 _ _ vs1 hq7) cw_X5_95 ⟨Nat.le_of_ble_eq_true rfl, Nat.le_of_ble_eq_true rfl⟩ (by decide) (M_row _) rfl rfl hl.1.symm rfl (Nat.le_of_ble_eq_true rfl) dX5_viewPoll_34 ⟨Nat.zero_le _, Nat.zero_le _⟩) h (fun H locs h => ?_)
  refine lv_if_eq (tgt := 42) hx hb dX5_viewPoll_37 (by decide) (fun c8 => ?_) (fun c8 => ?_)
  · rw [if_pos c8] at hf
    refine lv_aload_n hx hb dX5_viewPoll_42 rfl (lv_at hl 0 rfl) ?_
    refine lv_aload_n hx hb dX5_viewPoll_43 rfl (lv_at hl 0 rfl) ?_
    refine g_get B h 44 (by decide) (C := RX5) (T := TX5) (N := 21) (M_row _) rfl hin_X5 4 (by decide) hw833 rfl rfl dX5_viewPoll_44 ?_
    refine lv_iload_n hx hb dX5_viewPoll_47 rfl (lv_at hl 1 rfl) ?_
    obtain ⟨c9, hf⟩ := chk_some hf
    refine g_iald B h 49 (by decide) (n := 4) (fun _ => rfl) (inb_in c9) dX5_viewPoll_48 ?_
    refine lv_iload_n hx hb dX5_viewPoll_49 rfl (lv_at hl 2 rfl) ?_
    refine lv_if_eq (tgt := 63) hx hb dX5_viewPoll_50 (by decide) (fun c10 => ?_) (fun c10 => ?_)
    · rw [if_pos c10] at hf
      refine lv_aload_n hx hb dX5_viewPoll_63 rfl (lv_at hl 0 rfl) ?_
      refine lv_iload_n hx hb dX5_viewPoll_64 rfl (lv_at hl 1 rfl) ?_
      obtain ⟨vr11, hq11, hf⟩ := rthn_some hf
      refine sRetC1 (g_runV (k := 44) (T := TX5) (N := 21) B h (ok_X5_firstOf B.2.2.2.2.2.2.2.2 B.2.2.2.2.2.2.1 _ _ v1 hq11) cw_X5_116 ⟨Nat.le_of_ble_eq_true rfl, Nat.le_of_ble_eq_true rfl⟩ (by decide) (M_row _) rfl rfl hl.1.symm rfl (Nat.le_of_ble_eq_true rfl) dX5_viewPoll_65 ⟨Nat.zero_le _, Nat.zero_le _⟩) h (fun H locs h => ?_)
      obtain ⟨vr12, σ12, hq12, hf⟩ := wthn_some hf
      refine sRetC1 (g_runV (k := 44) (T := TX5) (N := 21) B h (ok_X5_pollsAt B.2.2.2.2.2.2.2.2 B.2.2.2.2.2.2.1 _ _ (σ7 49 (v1).toNatClampNeg) vr11 hq12) cw_X5_110 ⟨Nat.le_of_ble_eq_true rfl, Nat.le_of_ble_eq_true rfl⟩ (by decide) (M_row _) rfl rfl hl.1.symm rfl (Nat.le_of_ble_eq_true rfl) dX5_viewPoll_68 ⟨Nat.zero_le _, Nat.zero_le _⟩) h (fun H locs h => ?_)
      cases hf
      exact sE_i B hr h dX5_viewPoll_71
    · rw [if_neg c10] at hf
      refine lv_aload_n hx hb dX5_viewPoll_53 rfl (lv_at hl 0 rfl) ?_
      refine lv_iload_n hx hb dX5_viewPoll_54 rfl (lv_at hl 1 rfl) ?_
      obtain ⟨vr13, hq13, hf⟩ := rthn_some hf
      refine sRetC1 (g_runV (k := 44) (T := TX5) (N := 21) B h (ok_X5_behindOf B.2.2.2.2.2.2.2.2 B.2.2.2.2.2.2.1 _ _ v1 hq13) cw_X5_123 ⟨Nat.le_of_ble_eq_true rfl, Nat.le_of_ble_eq_true rfl⟩ (by decide) (M_row _) rfl rfl hl.1.symm rfl (Nat.le_of_ble_eq_true rfl) dX5_viewPoll_55 ⟨Nat.zero_le _, Nat.zero_le _⟩) h (fun H locs h => ?_)
      refine lv_iconst (v := (1 : Int32)) hx hb dX5_viewPoll_58 (by decide) ?_
      refine lv_isub hx hb dX5_viewPoll_59 ?_
      refine lv_goto (tgt := 68) hx hb dX5_viewPoll_60 (by decide) ?_
      obtain ⟨vr14, σ14, hq14, hf⟩ := wthn_some hf
      refine sRetC1 (g_runV (k := 44) (T := TX5) (N := 21) B h (ok_X5_pollsAt B.2.2.2.2.2.2.2.2 B.2.2.2.2.2.2.1 _ _ (σ7 49 (v1).toNatClampNeg) (vr13 - (1 : Int32)) hq14) cw_X5_110 ⟨Nat.le_of_ble_eq_true rfl, Nat.le_of_ble_eq_true rfl⟩ (by decide) (M_row _) rfl rfl hl.1.symm rfl (Nat.le_of_ble_eq_true rfl) dX5_viewPoll_68 ⟨Nat.zero_le _, Nat.zero_le _⟩) h (fun H locs h => ?_)
      cases hf
      exact sE_i B hr h dX5_viewPoll_71
  · rw [if_neg c8] at hf
    refine lv_iconst (v := (0 : Int32)) hx hb dX5_viewPoll_40 (by decide) ?_
    cases hf
    exact sE_i B hr h dX5_viewPoll_41
set_option maxHeartbeats 4000000 in
set_option maxRecDepth 100000 in
theorem k_X5_viewPoll_0 {p : Program} {l : Launch} {e : Env} {s : State} {m : MethodId} {args : Array Value} {below : List Frame} {meth : Method} {c : Code} {D : va_G} {cy : Nat → ClassId} {ad : Nat → Nat} {X : sX} {r : Int32} {σ' : sM} (B : sB p l s m meth c args cX5_viewPoll 3 RX5 D cy ad) (hr : meth.sig.returnType = (some .int)) (v1 : Int32) (v2 : Int32) (σ : sM) (hf : f_X5_viewPoll v1 v2 σ = some (r, σ')) : sGo p l e { frames := 3, cells := 0, slots := 0, locals := 68 } s m args below meth c D cy ad X 3 (sQ below args s 0 0 D cy ad (.inr (some (.int r))) X σ') σ 0 [(0, .ref (ad 44)), (1, .int v1), (2, .int v2)] [] := by
  replace hf : (rthn (f_X5_isView v1 σ) (fun vr1 => if vr1 = 0 then (b_X5_viewPoll_34 v1 v2 (1 : Int32) σ) else (chk (inb v1 4) (if (σ 48 (v1).toNatClampNeg) = 0 then (b_X5_viewPoll_34 v1 v2 (2 : Int32) σ) else (rthn (f_X5_manyOf v1 σ) (fun vr5 => if vr5 = 0 then (b_X5_viewPoll_34 v1 v2 (2 : Int32) σ) else (b_X5_viewPoll_34 v1 v2 (0 : Int32) σ))))))) = some (r, σ') := hf
  intro H locs ls h hl
  have hx := B.1
  have hb := B.2.1
  refine lv_aload_n hx hb dX5_viewPoll_0 rfl (lv_at hl 0 rfl) ?_
  refine lv_iload_n hx hb dX5_viewPoll_1 rfl (lv_at hl 1 rfl) ?_
  obtain ⟨vr1, hq1, hf⟩ := rthn_some hf
  refine sRetC1 (g_runS B h (ok_X5_isView B.2.2.2.2.2.2.2.2 B.2.2.2.2.2.2.1 _ _ v1 hq1) cw_X5_126 ⟨Nat.le_of_ble_eq_true rfl, Nat.le_of_ble_eq_true rfl⟩ rfl hl.1.symm rfl (Nat.le_of_ble_eq_true rfl) dX5_viewPoll_2 ⟨Nat.zero_le _, Nat.zero_le _⟩) h (fun H locs h => ?_)
  refine lv_if_ne (tgt := 12) hx hb dX5_viewPoll_5 (by decide) (fun c2 => ?_) (fun c2 => ?_)
  · rw [if_neg c2] at hf
    refine lv_aload_n hx hb dX5_viewPoll_12 rfl (lv_at hl 0 rfl) ?_
    refine g_get B h 44 (by decide) (C := RX5) (T := TX5) (N := 21) (M_row _) rfl hin_X5 3 (by decide) hw832 rfl rfl dX5_viewPoll_13 ?_
    refine lv_iload_n hx hb dX5_viewPoll_16 rfl (lv_at hl 1 rfl) ?_
    obtain ⟨c3, hf⟩ := chk_some hf
    refine g_zald B h 48 (by decide) (n := 4) (fun _ => rfl) (inb_in c3) dX5_viewPoll_17 ?_
    refine lv_if_eq (tgt := 29) hx hb dX5_viewPoll_18 (by decide) (fun c4 => ?_) (fun c4 => ?_)
    · rw [if_pos c4] at hf
      refine lv_iconst (v := (2 : Int32)) hx hb dX5_viewPoll_29 (by decide) ?_
      refine lv_goto (tgt := 34) hx hb dX5_viewPoll_30 (by decide) ?_
      exact k_X5_viewPoll_34 B hr  _ _ _ _ hf _ _ _ h (lv_sub hl [0, 1, 2] rfl)
    · rw [if_neg c4] at hf
      refine lv_aload_n hx hb dX5_viewPoll_21 rfl (lv_at hl 0 rfl) ?_
      refine lv_iload_n hx hb dX5_viewPoll_22 rfl (lv_at hl 1 rfl) ?_
      obtain ⟨vr5, hq5, hf⟩ := rthn_some hf
      refine sRetC1 (g_runV (k := 44) (T := TX5) (N := 21) B h (ok_X5_manyOf B.2.2.2.2.2.2.2.2 B.2.2.2.2.2.2.1 _ _ v1 hq5) cw_X5_129 ⟨Nat.le_of_ble_eq_true rfl, Nat.le_of_ble_eq_true rfl⟩ (by decide) (M_row _) rfl rfl hl.1.symm rfl (Nat.le_of_ble_eq_true rfl) dX5_viewPoll_23 ⟨Nat.zero_le _, Nat.zero_le _⟩) h (fun H locs h => ?_)
      refine lv_if_ne (tgt := 33) hx hb dX5_viewPoll_26 (by decide) (fun c6 => ?_) (fun c6 => ?_)
      · rw [if_neg c6] at hf
        refine lv_iconst (v := (0 : Int32)) hx hb dX5_viewPoll_33 (by decide) ?_
        exact k_X5_viewPoll_34 B hr  _ _ _ _ hf _ _ _ h (lv_sub hl [0, 1, 2] rfl)
      · rw [if_pos c6] at hf
        refine lv_iconst (v := (2 : Int32)) hx hb dX5_viewPoll_29 (by decide) ?_
        refine lv_goto (tgt := 34) hx hb dX5_viewPoll_30 (by decide) ?_
        exact k_X5_viewPoll_34 B hr  _ _ _ _ hf _ _ _ h (lv_sub hl [0, 1, 2] rfl)
  · rw [if_pos c2] at hf
    refine lv_iconst (v := (1 : Int32)) hx hb dX5_viewPoll_8 (by decide) ?_
    refine lv_goto (tgt := 34) hx hb dX5_viewPoll_9 (by decide) ?_
    exact k_X5_viewPoll_34 B hr  _ _ _ _ hf _ _ _ h (lv_sub hl [0, 1, 2] rfl)
set_option maxRecDepth 100000 in
theorem ok_X5_viewPoll {l : Launch} (hl0 : l.stackTraces = false) {D : va_G} {cy : Nat → ClassId} {ad : Nat → Nat} (hap : sAp ad) (X : sX) (σ : sM) (v1 : Int32) (v2 : Int32) {r : Int32} {σ' : sM} (hf : f_X5_viewPoll v1 v2 σ = some (r, σ')) : sMet l yX5_viewPoll (sWs yX5_viewPoll cX5_viewPoll 3 (some .int)) 3 68 0 0 D cy ad X σ [.ref (ad 44), .int v1, .int v2] (.inr (some (.int r))) X σ' := by
  refine sMet_of (by decide +kernel) (Nat.le_of_ble_eq_true rfl) hap hl0 ?_
  intro p e s m args below meth c ls B hr htab hl h
  exact k_X5_viewPoll_0 B hr _ _ _  hf _ _ _ h hl
set_option maxHeartbeats 4000000 in
set_option maxRecDepth 100000 in
theorem k_X5_viewPut_73 {p : Program} {l : Launch} {e : Env} {s : State} {m : MethodId} {args : Array Value} {below : List Frame} {meth : Method} {c : Code} {D : va_G} {cy : Nat → ClassId} {ad : Nat → Nat} {X : sX} {r : Int32} {σ' : sM} (B : sB p l s m meth c args cX5_viewPut 4 RX5 D cy ad) (hr : meth.sig.returnType = (some .int)) (v1 : Int32) (v2 : Int32) (v3 : Int32) (vs1 : Int32) (σ : sM) (hf : b_X5_viewPut_73 v1 v2 v3 vs1 σ = some (r, σ')) : sGo p l e { frames := 3, cells := 0, slots := 0, locals := 68 } s m args below meth c D cy ad X 4 (sQ below args s 0 0 D cy ad (.inr (some (.int r))) X σ') σ 73 [(0, .ref (ad 44)), (1, .int v1), (2, .int v2), (3, .int v3)] [.int vs1, .ref (ad 44)] := by
  replace hf : (wthn (f_X5_refused vs1 σ) (fun vr13 σ13 => if vr13 = 0 then (chk (inb v1 4) (wthn (f_X5_puts (σ13 49 (v1).toNatClampNeg) v2 v3 σ13) (fun _ σ16 => rthn (f_X5_manyOf v1 σ16) (fun vr17 => some (vr17, σ16))))) else (some ((0 : Int32), σ13)))) = some (r, σ') := hf
  intro H locs ls h hl
  have hx := B.1
  have hb := B.2.1
  obtain ⟨vr13, σ13, hq13, hf⟩ := wthn_some hf
  refine sRetC1 (g_runV (k := 44) (T := TX5) (N := 21) B h (ok_X5_refused B.2.2.2.2.2.2.2.2 B.2.2.2.2.2.2.1 _ _ vs1 hq13) cw_X5_95 ⟨Nat.le_of_ble_eq_true rfl, Nat.le_of_ble_eq_true rfl⟩ (by decide) (M_row _) rfl rfl hl.1.symm rfl (Nat.le_of_ble_eq_true rfl) dX5_viewPut_73 ⟨Nat.zero_le _, Nat.zero_le _⟩) h (fun H locs h => ?_)
  refine lv_if_eq (tgt := 81) hx hb dX5_viewPut_76 (by decide) (fun c14 => ?_) (fun c14 => ?_)
  · rw [if_pos c14] at hf
    refine lv_aload_n hx hb dX5_viewPut_81 rfl (lv_at hl 0 rfl) ?_
    refine lv_aload_n hx hb dX5_viewPut_82 rfl (lv_at hl 0 rfl) ?_
    refine g_get B h 44 (by decide) (C := RX5) (T := TX5) (N := 21) (M_row _) rfl hin_X5 4 (by decide) hw833 rfl rfl dX5_viewPut_83 ?_
    refine lv_iload_n hx hb dX5_viewPut_86 rfl (lv_at hl 1 rfl) ?_
    obtain ⟨c15, hf⟩ := chk_some hf
    refine g_iald B h 49 (by decide) (n := 4) (fun _ => rfl) (inb_in c15) dX5_viewPut_87 ?_
    refine lv_iload_n hx hb dX5_viewPut_88 rfl (lv_at hl 2 rfl) ?_
    refine lv_iload_n hx hb dX5_viewPut_89 rfl (lv_at hl 3 rfl) ?_
    obtain ⟨vr16, σ16, hq16, hf⟩ := wthn_some hf
    refine sRetC0 (g_runV (k := 44) (T := TX5) (N := 21) B h (ok_X5_puts B.2.2.2.2.2.2.2.2 B.2.2.2.2.2.2.1 _ _ (σ13 49 (v1).toNatClampNeg) v2 v3 hq16) cw_X5_98 ⟨Nat.le_of_ble_eq_true rfl, Nat.le_of_ble_eq_true rfl⟩ (by decide) (M_row _) rfl rfl hl.1.symm rfl (Nat.le_of_ble_eq_true rfl) dX5_viewPut_90 ⟨Nat.zero_le _, Nat.zero_le _⟩) h (fun H locs h => ?_)
    refine lv_aload_n hx hb dX5_viewPut_93 rfl (lv_at hl 0 rfl) ?_
    refine lv_iload_n hx hb dX5_viewPut_94 rfl (lv_at hl 1 rfl) ?_
    obtain ⟨vr17, hq17, hf⟩ := rthn_some hf
    refine sRetC1 (g_runV (k := 44) (T := TX5) (N := 21) B h (ok_X5_manyOf B.2.2.2.2.2.2.2.2 B.2.2.2.2.2.2.1 _ _ v1 hq17) cw_X5_129 ⟨Nat.le_of_ble_eq_true rfl, Nat.le_of_ble_eq_true rfl⟩ (by decide) (M_row _) rfl rfl hl.1.symm rfl (Nat.le_of_ble_eq_true rfl) dX5_viewPut_95 ⟨Nat.zero_le _, Nat.zero_le _⟩) h (fun H locs h => ?_)
    cases hf
    exact sE_i B hr h dX5_viewPut_98
  · rw [if_neg c14] at hf
    refine lv_iconst (v := (0 : Int32)) hx hb dX5_viewPut_79 (by decide) ?_
    cases hf
    exact sE_i B hr h dX5_viewPut_80
set_option maxHeartbeats 4000000 in
set_option maxRecDepth 100000 in
theorem k_X5_viewPut_0 {p : Program} {l : Launch} {e : Env} {s : State} {m : MethodId} {args : Array Value} {below : List Frame} {meth : Method} {c : Code} {D : va_G} {cy : Nat → ClassId} {ad : Nat → Nat} {X : sX} {r : Int32} {σ' : sM} (B : sB p l s m meth c args cX5_viewPut 4 RX5 D cy ad) (hr : meth.sig.returnType = (some .int)) (v1 : Int32) (v2 : Int32) (v3 : Int32) (σ : sM) (hf : f_X5_viewPut v1 v2 v3 σ = some (r, σ')) : sGo p l e { frames := 3, cells := 0, slots := 0, locals := 68 } s m args below meth c D cy ad X 4 (sQ below args s 0 0 D cy ad (.inr (some (.int r))) X σ') σ 0 [(0, .ref (ad 44)), (1, .int v1), (2, .int v2), (3, .int v3)] [] := by
  replace hf : (rthn (f_X5_isView v1 σ) (fun vr1 => if vr1 = 0 then (b_X5_viewPut_73 v1 v2 v3 (1 : Int32) σ) else (chk (inb v1 4) (if (σ 48 (v1).toNatClampNeg) = 0 then (b_X5_viewPut_73 v1 v2 v3 (2 : Int32) σ) else (rthn (f_X5_isIn v1 v2 σ) (fun vr5 => if vr5 = 0 then (b_X5_viewPut_73 v1 v2 v3 (3 : Int32) σ) else (chk (inb v1 4) (chk (inb (σ 49 (v1).toNatClampNeg) 3) (if (σ 47 ((σ 49 (v1).toNatClampNeg)).toNatClampNeg) = (60 : Int32) then (chk (inb v1 4) (rthn (f_X5_has (σ 49 (v1).toNatClampNeg) v2 σ) (fun vr11 => if vr11 = 0 then (b_X5_viewPut_73 v1 v2 v3 (4 : Int32) σ) else (b_X5_viewPut_73 v1 v2 v3 (0 : Int32) σ)))) else (b_X5_viewPut_73 v1 v2 v3 (0 : Int32) σ)))))))))) = some (r, σ') := hf
  intro H locs ls h hl
  have hx := B.1
  have hb := B.2.1
  refine lv_aload_n hx hb dX5_viewPut_0 rfl (lv_at hl 0 rfl) ?_
  refine lv_iload_n hx hb dX5_viewPut_1 rfl (lv_at hl 1 rfl) ?_
  obtain ⟨vr1, hq1, hf⟩ := rthn_some hf
  refine sRetC1 (g_runS B h (ok_X5_isView B.2.2.2.2.2.2.2.2 B.2.2.2.2.2.2.1 _ _ v1 hq1) cw_X5_126 ⟨Nat.le_of_ble_eq_true rfl, Nat.le_of_ble_eq_true rfl⟩ rfl hl.1.symm rfl (Nat.le_of_ble_eq_true rfl) dX5_viewPut_2 ⟨Nat.zero_le _, Nat.zero_le _⟩) h (fun H locs h => ?_)
  refine lv_if_ne (tgt := 12) hx hb dX5_viewPut_5 (by decide) (fun c2 => ?_) (fun c2 => ?_)
  · rw [if_neg c2] at hf
    refine lv_aload_n hx hb dX5_viewPut_12 rfl (lv_at hl 0 rfl) ?_
    refine g_get B h 44 (by decide) (C := RX5) (T := TX5) (N := 21) (M_row _) rfl hin_X5 3 (by decide) hw832 rfl rfl dX5_viewPut_13 ?_
    refine lv_iload_n hx hb dX5_viewPut_16 rfl (lv_at hl 1 rfl) ?_
    obtain ⟨c3, hf⟩ := chk_some hf
    refine g_zald B h 48 (by decide) (n := 4) (fun _ => rfl) (inb_in c3) dX5_viewPut_17 ?_
    refine lv_if_ne (tgt := 25) hx hb dX5_viewPut_18 (by decide) (fun c4 => ?_) (fun c4 => ?_)
    · rw [if_neg c4] at hf
      refine lv_aload_n hx hb dX5_viewPut_25 rfl (lv_at hl 0 rfl) ?_
      refine lv_iload_n hx hb dX5_viewPut_26 rfl (lv_at hl 1 rfl) ?_
      refine lv_iload_n hx hb dX5_viewPut_27 rfl (lv_at hl 2 rfl) ?_
      obtain ⟨vr5, hq5, hf⟩ := rthn_some hf
      refine sRetC1 (g_runV (k := 44) (T := TX5) (N := 21) B h (ok_X5_isIn B.2.2.2.2.2.2.2.2 B.2.2.2.2.2.2.1 _ _ v1 v2 hq5) cw_X5_120 ⟨Nat.le_of_ble_eq_true rfl, Nat.le_of_ble_eq_true rfl⟩ (by decide) (M_row _) rfl rfl hl.1.symm rfl (Nat.le_of_ble_eq_true rfl) dX5_viewPut_28 ⟨Nat.zero_le _, Nat.zero_le _⟩) h (fun H locs h => ?_)
      refine lv_if_ne (tgt := 38) hx hb dX5_viewPut_31 (by decide) (fun c6 => ?_) (fun c6 => ?_)
      · rw [if_neg c6] at hf
        refine lv_aload_n hx hb dX5_viewPut_38 rfl (lv_at hl 0 rfl) ?_
        refine g_get B h 44 (by decide) (C := RX5) (T := TX5) (N := 21) (M_row _) rfl hin_X5 2 (by decide) hw831 rfl rfl dX5_viewPut_39 ?_
        refine lv_aload_n hx hb dX5_viewPut_42 rfl (lv_at hl 0 rfl) ?_
        refine g_get B h 44 (by decide) (C := RX5) (T := TX5) (N := 21) (M_row _) rfl hin_X5 4 (by decide) hw833 rfl rfl dX5_viewPut_43 ?_
        refine lv_iload_n hx hb dX5_viewPut_46 rfl (lv_at hl 1 rfl) ?_
        obtain ⟨c7, hf⟩ := chk_some hf
        refine g_iald B h 49 (by decide) (n := 4) (fun _ => rfl) (inb_in c7) dX5_viewPut_47 ?_
        obtain ⟨c8, hf⟩ := chk_some hf
        refine g_iald B h 47 (by decide) (n := 3) (fun _ => rfl) (inb_in c8) dX5_viewPut_48 ?_
        refine lv_bipush (v := (60 : Int32)) hx hb dX5_viewPut_49 (by decide) ?_
        refine lv_icmp_ne (tgt := 72) hx hb dX5_viewPut_51 (by decide) (fun c9 => ?_) (fun c9 => ?_)
        · rw [if_neg c9] at hf
          refine lv_iconst (v := (0 : Int32)) hx hb dX5_viewPut_72 (by decide) ?_
          exact k_X5_viewPut_73 B hr  _ _ _ _ _ hf _ _ _ h (lv_sub hl [0, 1, 2, 3] rfl)
        · rw [if_pos c9] at hf
          refine lv_aload_n hx hb dX5_viewPut_54 rfl (lv_at hl 0 rfl) ?_
          refine lv_aload_n hx hb dX5_viewPut_55 rfl (lv_at hl 0 rfl) ?_
          refine g_get B h 44 (by decide) (C := RX5) (T := TX5) (N := 21) (M_row _) rfl hin_X5 4 (by decide) hw833 rfl rfl dX5_viewPut_56 ?_
          refine lv_iload_n hx hb dX5_viewPut_59 rfl (lv_at hl 1 rfl) ?_
          obtain ⟨c10, hf⟩ := chk_some hf
          refine g_iald B h 49 (by decide) (n := 4) (fun _ => rfl) (inb_in c10) dX5_viewPut_60 ?_
          refine lv_iload_n hx hb dX5_viewPut_61 rfl (lv_at hl 2 rfl) ?_
          obtain ⟨vr11, hq11, hf⟩ := rthn_some hf
          refine sRetC1 (g_runV (k := 44) (T := TX5) (N := 21) B h (ok_X5_has B.2.2.2.2.2.2.2.2 B.2.2.2.2.2.2.1 _ _ (σ 49 (v1).toNatClampNeg) v2 hq11) cw_X5_91 ⟨Nat.le_of_ble_eq_true rfl, Nat.le_of_ble_eq_true rfl⟩ (by decide) (M_row _) rfl rfl hl.1.symm rfl (Nat.le_of_ble_eq_true rfl) dX5_viewPut_62 ⟨Nat.zero_le _, Nat.zero_le _⟩) h (fun H locs h => ?_)
          refine lv_if_ne (tgt := 72) hx hb dX5_viewPut_65 (by decide) (fun c12 => ?_) (fun c12 => ?_)
          · rw [if_neg c12] at hf
            refine lv_iconst (v := (0 : Int32)) hx hb dX5_viewPut_72 (by decide) ?_
            exact k_X5_viewPut_73 B hr  _ _ _ _ _ hf _ _ _ h (lv_sub hl [0, 1, 2, 3] rfl)
          · rw [if_pos c12] at hf
            refine lv_iconst (v := (4 : Int32)) hx hb dX5_viewPut_68 (by decide) ?_
            refine lv_goto (tgt := 73) hx hb dX5_viewPut_69 (by decide) ?_
            exact k_X5_viewPut_73 B hr  _ _ _ _ _ hf _ _ _ h (lv_sub hl [0, 1, 2, 3] rfl)
      · rw [if_pos c6] at hf
        refine lv_iconst (v := (3 : Int32)) hx hb dX5_viewPut_34 (by decide) ?_
        refine lv_goto (tgt := 73) hx hb dX5_viewPut_35 (by decide) ?_
        exact k_X5_viewPut_73 B hr  _ _ _ _ _ hf _ _ _ h (lv_sub hl [0, 1, 2, 3] rfl)
    · rw [if_pos c4] at hf
      refine lv_iconst (v := (2 : Int32)) hx hb dX5_viewPut_21 (by decide) ?_
      refine lv_goto (tgt := 73) hx hb dX5_viewPut_22 (by decide) ?_
      exact k_X5_viewPut_73 B hr  _ _ _ _ _ hf _ _ _ h (lv_sub hl [0, 1, 2, 3] rfl)
  · rw [if_pos c2] at hf
    refine lv_iconst (v := (1 : Int32)) hx hb dX5_viewPut_8 (by decide) ?_
    refine lv_goto (tgt := 73) hx hb dX5_viewPut_9 (by decide) ?_
    exact k_X5_viewPut_73 B hr  _ _ _ _ _ hf _ _ _ h (lv_sub hl [0, 1, 2, 3] rfl)
set_option maxRecDepth 100000 in
theorem ok_X5_viewPut {l : Launch} (hl0 : l.stackTraces = false) {D : va_G} {cy : Nat → ClassId} {ad : Nat → Nat} (hap : sAp ad) (X : sX) (σ : sM) (v1 : Int32) (v2 : Int32) (v3 : Int32) {r : Int32} {σ' : sM} (hf : f_X5_viewPut v1 v2 v3 σ = some (r, σ')) : sMet l yX5_viewPut (sWs yX5_viewPut cX5_viewPut 4 (some .int)) 3 68 0 0 D cy ad X σ [.ref (ad 44), .int v1, .int v2, .int v3] (.inr (some (.int r))) X σ' := by
  refine sMet_of (by decide +kernel) (Nat.le_of_ble_eq_true rfl) hap hl0 ?_
  intro p e s m args below meth c ls B hr htab hl h
  exact k_X5_viewPut_0 B hr _ _ _ _  hf _ _ _ h hl
set_option maxHeartbeats 4000000 in
set_option maxRecDepth 100000 in
theorem k_X5_viewRemove_62 {p : Program} {l : Launch} {e : Env} {s : State} {m : MethodId} {args : Array Value} {below : List Frame} {meth : Method} {c : Code} {D : va_G} {cy : Nat → ClassId} {ad : Nat → Nat} {X : sX} {r : Int32} {σ' : sM} (B : sB p l s m meth c args cX5_viewRemove 4 RX5 D cy ad) (hr : meth.sig.returnType = (some .boolean)) (v1 : Int32) (v2 : Int32) (vs0 : Int32) (σ : sM) (hf : b_X5_viewRemove_62 v1 v2 vs0 σ = some (r, σ')) : sGo p l e { frames := 2, cells := 0, slots := 0, locals := 45 } s m args below meth c D cy ad X 4 (sQ below args s 0 0 D cy ad (.inr (some (.int r))) X σ') σ 62 [(0, .ref (ad 44)), (1, .int v1), (2, .int v2)] [.int vs0] := by
  replace hf : (if vs0 = 0 then (chk (isb vs0) (some (vs0, σ))) else (chk (inb v1 4) (chk (inb v1 4) (rthn (f_X5_placeOf (σ 49 (v1).toNatClampNeg) v2 σ) (fun vr16 => wthn (f_X5_takes (σ 49 (v1).toNatClampNeg) vr16 σ) (fun _ σ17 => chk (isb vs0) (some (vs0, σ17)))))))) = some (r, σ') := hf
  intro H locs ls h hl
  have hx := B.1
  have hb := B.2.1
  refine lv_istore_n (lv' := [(3, .int vs0), (0, .ref (ad 44)), (1, .int v1), (2, .int v2)]) hx hb dX5_viewRemove_62 rfl hl (by decide) rfl (fun ls hl => ?_)
  refine lv_iload_n hx hb dX5_viewRemove_63 rfl (lv_at hl 0 rfl) ?_
  refine lv_if_eq (tgt := 88) hx hb dX5_viewRemove_64 (by decide) (fun c12 => ?_) (fun c12 => ?_)
  · rw [if_pos c12] at hf
    refine lv_iload_n hx hb dX5_viewRemove_88 rfl (lv_at hl 0 rfl) ?_
    obtain ⟨c13, hf⟩ := chk_some hf
    cases hf
    exact sE_z B hr h (isb_n c13) dX5_viewRemove_89
  · rw [if_neg c12] at hf
    refine lv_aload_n hx hb dX5_viewRemove_67 rfl (lv_at hl 1 rfl) ?_
    refine lv_aload_n hx hb dX5_viewRemove_68 rfl (lv_at hl 1 rfl) ?_
    refine g_get B h 44 (by decide) (C := RX5) (T := TX5) (N := 21) (M_row _) rfl hin_X5 4 (by decide) hw833 rfl rfl dX5_viewRemove_69 ?_
    refine lv_iload_n hx hb dX5_viewRemove_72 rfl (lv_at hl 2 rfl) ?_
    obtain ⟨c14, hf⟩ := chk_some hf
    refine g_iald B h 49 (by decide) (n := 4) (fun _ => rfl) (inb_in c14) dX5_viewRemove_73 ?_
    refine lv_aload_n hx hb dX5_viewRemove_74 rfl (lv_at hl 1 rfl) ?_
    refine lv_aload_n hx hb dX5_viewRemove_75 rfl (lv_at hl 1 rfl) ?_
    refine g_get B h 44 (by decide) (C := RX5) (T := TX5) (N := 21) (M_row _) rfl hin_X5 4 (by decide) hw833 rfl rfl dX5_viewRemove_76 ?_
    refine lv_iload_n hx hb dX5_viewRemove_79 rfl (lv_at hl 2 rfl) ?_
    obtain ⟨c15, hf⟩ := chk_some hf
    refine g_iald B h 49 (by decide) (n := 4) (fun _ => rfl) (inb_in c15) dX5_viewRemove_80 ?_
    refine lv_iload_n hx hb dX5_viewRemove_81 rfl (lv_at hl 3 rfl) ?_
    obtain ⟨vr16, hq16, hf⟩ := rthn_some hf
    refine sRetC1 (g_runV (k := 44) (T := TX5) (N := 21) B h (ok_X5_placeOf B.2.2.2.2.2.2.2.2 B.2.2.2.2.2.2.1 _ _ (σ 49 (v1).toNatClampNeg) v2 hq16) cw_X5_68 ⟨Nat.le_of_ble_eq_true rfl, Nat.le_of_ble_eq_true rfl⟩ (by decide) (M_row _) rfl rfl hl.1.symm rfl (Nat.le_of_ble_eq_true rfl) dX5_viewRemove_82 ⟨Nat.zero_le _, Nat.zero_le _⟩) h (fun H locs h => ?_)
    obtain ⟨vr17, σ17, hq17, hf⟩ := wthn_some hf
    refine sRetC0 (g_runV (k := 44) (T := TX5) (N := 21) B h (ok_X5_takes B.2.2.2.2.2.2.2.2 B.2.2.2.2.2.2.1 _ _ (σ 49 (v1).toNatClampNeg) vr16 hq17) cw_X5_79 ⟨Nat.le_of_ble_eq_true rfl, Nat.le_of_ble_eq_true rfl⟩ (by decide) (M_row _) rfl rfl hl.1.symm rfl (Nat.le_of_ble_eq_true rfl) dX5_viewRemove_85 ⟨Nat.zero_le _, Nat.zero_le _⟩) h (fun H locs h => ?_)
    refine lv_iload_n hx hb dX5_viewRemove_88 rfl (lv_at hl 0 rfl) ?_
    obtain ⟨c18, hf⟩ := chk_some hf
    cases hf
    exact sE_z B hr h (isb_n c18) dX5_viewRemove_89
set_option maxHeartbeats 4000000 in
set_option maxRecDepth 100000 in
theorem k_X5_viewRemove_26 {p : Program} {l : Launch} {e : Env} {s : State} {m : MethodId} {args : Array Value} {below : List Frame} {meth : Method} {c : Code} {D : va_G} {cy : Nat → ClassId} {ad : Nat → Nat} {X : sX} {r : Int32} {σ' : sM} (B : sB p l s m meth c args cX5_viewRemove 4 RX5 D cy ad) (hr : meth.sig.returnType = (some .boolean)) (v1 : Int32) (v2 : Int32) (vs1 : Int32) (σ : sM) (hf : b_X5_viewRemove_26 v1 v2 vs1 σ = some (r, σ')) : sGo p l e { frames := 2, cells := 0, slots := 0, locals := 45 } s m args below meth c D cy ad X 4 (sQ below args s 0 0 D cy ad (.inr (some (.int r))) X σ') σ 26 [(0, .ref (ad 44)), (1, .int v1), (2, .int v2)] [.int vs1, .ref (ad 44)] := by
  replace hf : (wthn (f_X5_refused vs1 σ) (fun vr5 σ5 => if vr5 = 0 then (rthn (f_X5_isIn v1 v2 σ5) (fun vr7 => if vr7 = 0 then (b_X5_viewRemove_62 v1 v2 (0 : Int32) σ5) else (chk (inb v1 4) (rthn (f_X5_has (σ5 49 (v1).toNatClampNeg) v2 σ5) (fun vr10 => if vr10 = 0 then (b_X5_viewRemove_62 v1 v2 (0 : Int32) σ5) else (b_X5_viewRemove_62 v1 v2 (1 : Int32) σ5)))))) else (some ((0 : Int32), σ5)))) = some (r, σ') := hf
  intro H locs ls h hl
  have hx := B.1
  have hb := B.2.1
  obtain ⟨vr5, σ5, hq5, hf⟩ := wthn_some hf
  refine sRetC1 (g_runV (k := 44) (T := TX5) (N := 21) B h (ok_X5_refused B.2.2.2.2.2.2.2.2 B.2.2.2.2.2.2.1 _ _ vs1 hq5) cw_X5_95 ⟨Nat.le_of_ble_eq_true rfl, Nat.le_of_ble_eq_true rfl⟩ (by decide) (M_row _) rfl rfl hl.1.symm rfl (Nat.le_of_ble_eq_true rfl) dX5_viewRemove_26 ⟨Nat.zero_le _, Nat.zero_le _⟩) h (fun H locs h => ?_)
  refine lv_if_eq (tgt := 34) hx hb dX5_viewRemove_29 (by decide) (fun c6 => ?_) (fun c6 => ?_)
  · rw [if_pos c6] at hf
    refine lv_aload_n hx hb dX5_viewRemove_34 rfl (lv_at hl 0 rfl) ?_
    refine lv_iload_n hx hb dX5_viewRemove_35 rfl (lv_at hl 1 rfl) ?_
    refine lv_iload_n hx hb dX5_viewRemove_36 rfl (lv_at hl 2 rfl) ?_
    obtain ⟨vr7, hq7, hf⟩ := rthn_some hf
    refine sRetC1 (g_runV (k := 44) (T := TX5) (N := 21) B h (ok_X5_isIn B.2.2.2.2.2.2.2.2 B.2.2.2.2.2.2.1 _ _ v1 v2 hq7) cw_X5_120 ⟨Nat.le_of_ble_eq_true rfl, Nat.le_of_ble_eq_true rfl⟩ (by decide) (M_row _) rfl rfl hl.1.symm rfl (Nat.le_of_ble_eq_true rfl) dX5_viewRemove_37 ⟨Nat.zero_le _, Nat.zero_le _⟩) h (fun H locs h => ?_)
    refine lv_if_eq (tgt := 61) hx hb dX5_viewRemove_40 (by decide) (fun c8 => ?_) (fun c8 => ?_)
    · rw [if_pos c8] at hf
      refine lv_iconst (v := (0 : Int32)) hx hb dX5_viewRemove_61 (by decide) ?_
      exact k_X5_viewRemove_62 B hr  _ _ _ _ hf _ _ _ h (lv_sub hl [0, 1, 2] rfl)
    · rw [if_neg c8] at hf
      refine lv_aload_n hx hb dX5_viewRemove_43 rfl (lv_at hl 0 rfl) ?_
      refine lv_aload_n hx hb dX5_viewRemove_44 rfl (lv_at hl 0 rfl) ?_
      refine g_get B h 44 (by decide) (C := RX5) (T := TX5) (N := 21) (M_row _) rfl hin_X5 4 (by decide) hw833 rfl rfl dX5_viewRemove_45 ?_
      refine lv_iload_n hx hb dX5_viewRemove_48 rfl (lv_at hl 1 rfl) ?_
      obtain ⟨c9, hf⟩ := chk_some hf
      refine g_iald B h 49 (by decide) (n := 4) (fun _ => rfl) (inb_in c9) dX5_viewRemove_49 ?_
      refine lv_iload_n hx hb dX5_viewRemove_50 rfl (lv_at hl 2 rfl) ?_
      obtain ⟨vr10, hq10, hf⟩ := rthn_some hf
      refine sRetC1 (g_runV (k := 44) (T := TX5) (N := 21) B h (ok_X5_has B.2.2.2.2.2.2.2.2 B.2.2.2.2.2.2.1 _ _ (σ5 49 (v1).toNatClampNeg) v2 hq10) cw_X5_91 ⟨Nat.le_of_ble_eq_true rfl, Nat.le_of_ble_eq_true rfl⟩ (by decide) (M_row _) rfl rfl hl.1.symm rfl (Nat.le_of_ble_eq_true rfl) dX5_viewRemove_51 ⟨Nat.zero_le _, Nat.zero_le _⟩) h (fun H locs h => ?_)
      refine lv_if_eq (tgt := 61) hx hb dX5_viewRemove_54 (by decide) (fun c11 => ?_) (fun c11 => ?_)
      · rw [if_pos c11] at hf
        refine lv_iconst (v := (0 : Int32)) hx hb dX5_viewRemove_61 (by decide) ?_
        exact k_X5_viewRemove_62 B hr  _ _ _ _ hf _ _ _ h (lv_sub hl [0, 1, 2] rfl)
      · rw [if_neg c11] at hf
        refine lv_iconst (v := (1 : Int32)) hx hb dX5_viewRemove_57 (by decide) ?_
        refine lv_goto (tgt := 62) hx hb dX5_viewRemove_58 (by decide) ?_
        exact k_X5_viewRemove_62 B hr  _ _ _ _ hf _ _ _ h (lv_sub hl [0, 1, 2] rfl)
  · rw [if_neg c6] at hf
    refine lv_iconst (v := (0 : Int32)) hx hb dX5_viewRemove_32 (by decide) ?_
    cases hf
    exact sE_z B hr h rfl dX5_viewRemove_33
set_option maxHeartbeats 4000000 in
set_option maxRecDepth 100000 in
theorem k_X5_viewRemove_0 {p : Program} {l : Launch} {e : Env} {s : State} {m : MethodId} {args : Array Value} {below : List Frame} {meth : Method} {c : Code} {D : va_G} {cy : Nat → ClassId} {ad : Nat → Nat} {X : sX} {r : Int32} {σ' : sM} (B : sB p l s m meth c args cX5_viewRemove 4 RX5 D cy ad) (hr : meth.sig.returnType = (some .boolean)) (v1 : Int32) (v2 : Int32) (σ : sM) (hf : f_X5_viewRemove v1 v2 σ = some (r, σ')) : sGo p l e { frames := 2, cells := 0, slots := 0, locals := 45 } s m args below meth c D cy ad X 4 (sQ below args s 0 0 D cy ad (.inr (some (.int r))) X σ') σ 0 [(0, .ref (ad 44)), (1, .int v1), (2, .int v2)] [] := by
  replace hf : (rthn (f_X5_isView v1 σ) (fun vr1 => if vr1 = 0 then (b_X5_viewRemove_26 v1 v2 (1 : Int32) σ) else (chk (inb v1 4) (if (σ 48 (v1).toNatClampNeg) = 0 then (b_X5_viewRemove_26 v1 v2 (2 : Int32) σ) else (b_X5_viewRemove_26 v1 v2 (0 : Int32) σ))))) = some (r, σ') := hf
  intro H locs ls h hl
  have hx := B.1
  have hb := B.2.1
  refine lv_aload_n hx hb dX5_viewRemove_0 rfl (lv_at hl 0 rfl) ?_
  refine lv_iload_n hx hb dX5_viewRemove_1 rfl (lv_at hl 1 rfl) ?_
  obtain ⟨vr1, hq1, hf⟩ := rthn_some hf
  refine sRetC1 (g_runS B h (ok_X5_isView B.2.2.2.2.2.2.2.2 B.2.2.2.2.2.2.1 _ _ v1 hq1) cw_X5_126 ⟨Nat.le_of_ble_eq_true rfl, Nat.le_of_ble_eq_true rfl⟩ rfl hl.1.symm rfl (Nat.le_of_ble_eq_true rfl) dX5_viewRemove_2 ⟨Nat.zero_le _, Nat.zero_le _⟩) h (fun H locs h => ?_)
  refine lv_if_ne (tgt := 12) hx hb dX5_viewRemove_5 (by decide) (fun c2 => ?_) (fun c2 => ?_)
  · rw [if_neg c2] at hf
    refine lv_aload_n hx hb dX5_viewRemove_12 rfl (lv_at hl 0 rfl) ?_
    refine g_get B h 44 (by decide) (C := RX5) (T := TX5) (N := 21) (M_row _) rfl hin_X5 3 (by decide) hw832 rfl rfl dX5_viewRemove_13 ?_
    refine lv_iload_n hx hb dX5_viewRemove_16 rfl (lv_at hl 1 rfl) ?_
    obtain ⟨c3, hf⟩ := chk_some hf
    refine g_zald B h 48 (by decide) (n := 4) (fun _ => rfl) (inb_in c3) dX5_viewRemove_17 ?_
    refine lv_if_ne (tgt := 25) hx hb dX5_viewRemove_18 (by decide) (fun c4 => ?_) (fun c4 => ?_)
    · rw [if_neg c4] at hf
      refine lv_iconst (v := (0 : Int32)) hx hb dX5_viewRemove_25 (by decide) ?_
      exact k_X5_viewRemove_26 B hr  _ _ _ _ hf _ _ _ h (lv_sub hl [0, 1, 2] rfl)
    · rw [if_pos c4] at hf
      refine lv_iconst (v := (2 : Int32)) hx hb dX5_viewRemove_21 (by decide) ?_
      refine lv_goto (tgt := 26) hx hb dX5_viewRemove_22 (by decide) ?_
      exact k_X5_viewRemove_26 B hr  _ _ _ _ hf _ _ _ h (lv_sub hl [0, 1, 2] rfl)
  · rw [if_pos c2] at hf
    refine lv_iconst (v := (1 : Int32)) hx hb dX5_viewRemove_8 (by decide) ?_
    refine lv_goto (tgt := 26) hx hb dX5_viewRemove_9 (by decide) ?_
    exact k_X5_viewRemove_26 B hr  _ _ _ _ hf _ _ _ h (lv_sub hl [0, 1, 2] rfl)
set_option maxRecDepth 100000 in
theorem ok_X5_viewRemove {l : Launch} (hl0 : l.stackTraces = false) {D : va_G} {cy : Nat → ClassId} {ad : Nat → Nat} (hap : sAp ad) (X : sX) (σ : sM) (v1 : Int32) (v2 : Int32) {r : Int32} {σ' : sM} (hf : f_X5_viewRemove v1 v2 σ = some (r, σ')) : sMet l yX5_viewRemove (sWs yX5_viewRemove cX5_viewRemove 4 (some .boolean)) 2 45 0 0 D cy ad X σ [.ref (ad 44), .int v1, .int v2] (.inr (some (.int r))) X σ' := by
  refine sMet_of (by decide +kernel) (Nat.le_of_ble_eq_true rfl) hap hl0 ?_
  intro p e s m args below meth c ls B hr htab hl h
  exact k_X5_viewRemove_0 B hr _ _ _  hf _ _ _ h hl
set_option maxHeartbeats 4000000 in
set_option maxRecDepth 100000 in
theorem k_X5_viewSize_13 {p : Program} {l : Launch} {e : Env} {s : State} {m : MethodId} {args : Array Value} {below : List Frame} {meth : Method} {c : Code} {D : va_G} {cy : Nat → ClassId} {ad : Nat → Nat} {X : sX} {r : Int32} {σ' : sM} (B : sB p l s m meth c args cX5_viewSize 2 RX5 D cy ad) (hr : meth.sig.returnType = (some .int)) (v1 : Int32) (vs1 : Int32) (σ : sM) (hf : b_X5_viewSize_13 v1 vs1 σ = some (r, σ')) : sGo p l e { frames := 3, cells := 0, slots := 0, locals := 68 } s m args below meth c D cy ad X 2 (sQ below args s 0 0 D cy ad (.inr (some (.int r))) X σ') σ 13 [(0, .ref (ad 44)), (1, .int v1)] [.int vs1, .ref (ad 44)] := by
  replace hf : (wthn (f_X5_refused vs1 σ) (fun vr3 σ3 => if vr3 = 0 then (chk (inb v1 4) (if (σ3 48 (v1).toNatClampNeg) = 0 then (some ((-1 : Int32), σ3)) else (rthn (f_X5_manyOf v1 σ3) (fun vr7 => some (vr7, σ3))))) else (some ((0 : Int32), σ3)))) = some (r, σ') := hf
  intro H locs ls h hl
  have hx := B.1
  have hb := B.2.1
  obtain ⟨vr3, σ3, hq3, hf⟩ := wthn_some hf
  refine sRetC1 (g_runV (k := 44) (T := TX5) (N := 21) B h (ok_X5_refused B.2.2.2.2.2.2.2.2 B.2.2.2.2.2.2.1 _ _ vs1 hq3) cw_X5_95 ⟨Nat.le_of_ble_eq_true rfl, Nat.le_of_ble_eq_true rfl⟩ (by decide) (M_row _) rfl rfl hl.1.symm rfl (Nat.le_of_ble_eq_true rfl) dX5_viewSize_13 ⟨Nat.zero_le _, Nat.zero_le _⟩) h (fun H locs h => ?_)
  refine lv_if_eq (tgt := 23) hx hb dX5_viewSize_16 (by decide) (fun c4 => ?_) (fun c4 => ?_)
  · rw [if_pos c4] at hf
    refine lv_aload_n hx hb dX5_viewSize_23 rfl (lv_at hl 0 rfl) ?_
    refine g_get B h 44 (by decide) (C := RX5) (T := TX5) (N := 21) (M_row _) rfl hin_X5 3 (by decide) hw832 rfl rfl dX5_viewSize_24 ?_
    refine lv_iload_n hx hb dX5_viewSize_27 rfl (lv_at hl 1 rfl) ?_
    obtain ⟨c5, hf⟩ := chk_some hf
    refine g_zald B h 48 (by decide) (n := 4) (fun _ => rfl) (inb_in c5) dX5_viewSize_28 ?_
    refine lv_if_eq (tgt := 40) hx hb dX5_viewSize_29 (by decide) (fun c6 => ?_) (fun c6 => ?_)
    · rw [if_pos c6] at hf
      refine lv_iconst (v := (-1 : Int32)) hx hb dX5_viewSize_40 (by decide) ?_
      cases hf
      exact sE_i B hr h dX5_viewSize_41
    · rw [if_neg c6] at hf
      refine lv_aload_n hx hb dX5_viewSize_32 rfl (lv_at hl 0 rfl) ?_
      refine lv_iload_n hx hb dX5_viewSize_33 rfl (lv_at hl 1 rfl) ?_
      obtain ⟨vr7, hq7, hf⟩ := rthn_some hf
      refine sRetC1 (g_runV (k := 44) (T := TX5) (N := 21) B h (ok_X5_manyOf B.2.2.2.2.2.2.2.2 B.2.2.2.2.2.2.1 _ _ v1 hq7) cw_X5_129 ⟨Nat.le_of_ble_eq_true rfl, Nat.le_of_ble_eq_true rfl⟩ (by decide) (M_row _) rfl rfl hl.1.symm rfl (Nat.le_of_ble_eq_true rfl) dX5_viewSize_34 ⟨Nat.zero_le _, Nat.zero_le _⟩) h (fun H locs h => ?_)
      refine lv_goto (tgt := 41) hx hb dX5_viewSize_37 (by decide) ?_
      cases hf
      exact sE_i B hr h dX5_viewSize_41
  · rw [if_neg c4] at hf
    refine lv_iconst (v := (0 : Int32)) hx hb dX5_viewSize_19 (by decide) ?_
    refine lv_goto (tgt := 41) hx hb dX5_viewSize_20 (by decide) ?_
    cases hf
    exact sE_i B hr h dX5_viewSize_41
set_option maxHeartbeats 4000000 in
set_option maxRecDepth 100000 in
theorem k_X5_viewSize_0 {p : Program} {l : Launch} {e : Env} {s : State} {m : MethodId} {args : Array Value} {below : List Frame} {meth : Method} {c : Code} {D : va_G} {cy : Nat → ClassId} {ad : Nat → Nat} {X : sX} {r : Int32} {σ' : sM} (B : sB p l s m meth c args cX5_viewSize 2 RX5 D cy ad) (hr : meth.sig.returnType = (some .int)) (v1 : Int32) (σ : sM) (hf : f_X5_viewSize v1 σ = some (r, σ')) : sGo p l e { frames := 3, cells := 0, slots := 0, locals := 68 } s m args below meth c D cy ad X 2 (sQ below args s 0 0 D cy ad (.inr (some (.int r))) X σ') σ 0 [(0, .ref (ad 44)), (1, .int v1)] [] := by
  replace hf : (rthn (f_X5_isView v1 σ) (fun vr1 => if vr1 = 0 then (b_X5_viewSize_13 v1 (1 : Int32) σ) else (b_X5_viewSize_13 v1 (0 : Int32) σ))) = some (r, σ') := hf
  intro H locs ls h hl
  have hx := B.1
  have hb := B.2.1
  refine lv_aload_n hx hb dX5_viewSize_0 rfl (lv_at hl 0 rfl) ?_
  refine lv_iload_n hx hb dX5_viewSize_1 rfl (lv_at hl 1 rfl) ?_
  obtain ⟨vr1, hq1, hf⟩ := rthn_some hf
  refine sRetC1 (g_runS B h (ok_X5_isView B.2.2.2.2.2.2.2.2 B.2.2.2.2.2.2.1 _ _ v1 hq1) cw_X5_126 ⟨Nat.le_of_ble_eq_true rfl, Nat.le_of_ble_eq_true rfl⟩ rfl hl.1.symm rfl (Nat.le_of_ble_eq_true rfl) dX5_viewSize_2 ⟨Nat.zero_le _, Nat.zero_le _⟩) h (fun H locs h => ?_)
  refine lv_if_ne (tgt := 12) hx hb dX5_viewSize_5 (by decide) (fun c2 => ?_) (fun c2 => ?_)
  · rw [if_neg c2] at hf
    refine lv_iconst (v := (0 : Int32)) hx hb dX5_viewSize_12 (by decide) ?_
    exact k_X5_viewSize_13 B hr  _ _ _ hf _ _ _ h (lv_sub hl [0, 1] rfl)
  · rw [if_pos c2] at hf
    refine lv_iconst (v := (1 : Int32)) hx hb dX5_viewSize_8 (by decide) ?_
    refine lv_goto (tgt := 13) hx hb dX5_viewSize_9 (by decide) ?_
    exact k_X5_viewSize_13 B hr  _ _ _ hf _ _ _ h (lv_sub hl [0, 1] rfl)
set_option maxRecDepth 100000 in
theorem ok_X5_viewSize {l : Launch} (hl0 : l.stackTraces = false) {D : va_G} {cy : Nat → ClassId} {ad : Nat → Nat} (hap : sAp ad) (X : sX) (σ : sM) (v1 : Int32) {r : Int32} {σ' : sM} (hf : f_X5_viewSize v1 σ = some (r, σ')) : sMet l yX5_viewSize (sWs yX5_viewSize cX5_viewSize 2 (some .int)) 3 68 0 0 D cy ad X σ [.ref (ad 44), .int v1] (.inr (some (.int r))) X σ' := by
  refine sMet_of (by decide +kernel) (Nat.le_of_ble_eq_true rfl) hap hl0 ?_
  intro p e s m args below meth c ls B hr htab hl h
  exact k_X5_viewSize_0 B hr _ _  hf _ _ _ h hl
