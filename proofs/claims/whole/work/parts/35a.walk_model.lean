set_option maxHeartbeats 4000000 in
set_option maxRecDepth 100000 in
theorem k_X5_adds_0 {p : Program} {l : Launch} {e : Env} {s : State} {m : MethodId} {args : Array Value} {below : List Frame} {meth : Method} {c : Code} {D : va_G} {cy : Nat → ClassId} {ad : Nat → Nat} {X : sX} {r : Unit} {σ' : sM} (B : sB p l s m meth c args cX5_adds 6 RX5 D cy ad) (hr : meth.sig.returnType = none) (v1 : Int32) (v2 : Int32) (v3 : Int32) (v4 : Int32) (σ : sM) (hf : f_X5_adds v1 v2 v3 v4 σ = some (r, σ')) : sGo p l e { frames := 0, cells := 0, slots := 0, locals := 0 } s m args below meth c D cy ad X 6 (sQ below args s 0 0 D cy ad (.inr none) X σ') σ 0 [(0, .ref (ad 44)), (1, .int v1), (2, .int v2), (3, .int v3), (4, .int v4)] [] := by
  replace hf : (chk (inb v1 3) (chk (inb (((30 : Int32) * v1) + (σ 58 (v1).toNatClampNeg)) 90) (stl (va_up σ 55 (upd (σ 55) ((((30 : Int32) * v1) + (σ 58 (v1).toNatClampNeg))).toNatClampNeg (vp_nar .char v2))) (fun σ3 => chk (inb (((30 : Int32) * v1) + (σ 58 (v1).toNatClampNeg)) 90) (stl (va_up σ3 56 (upd (σ3 56) ((((30 : Int32) * v1) + (σ 58 (v1).toNatClampNeg))).toNatClampNeg v3)) (fun σ5 => chk (inb (((30 : Int32) * v1) + (σ 58 (v1).toNatClampNeg)) 90) (stl (va_up σ5 57 (upd (σ5 57) ((((30 : Int32) * v1) + (σ 58 (v1).toNatClampNeg))).toNatClampNeg v4)) (fun σ7 => chk (inb v1 3) (chk (inb v1 3) (stl (va_up σ7 58 (upd (σ7 58) (v1).toNatClampNeg ((σ7 58 (v1).toNatClampNeg) + (1 : Int32)))) (fun σ10 => some ((), σ10)))))))))))) = some (r, σ') := hf
  intro H locs ls h hl
  have hx := B.1
  have hb := B.2.1
  refine lv_bipush (v := (30 : Int32)) hx hb dX5_adds_0 (by decide) ?_
  refine lv_iload_n hx hb dX5_adds_2 rfl (lv_at hl 1 rfl) ?_
  refine lv_imul hx hb dX5_adds_3 ?_
  refine lv_aload_n hx hb dX5_adds_4 rfl (lv_at hl 0 rfl) ?_
  refine g_get B h 44 (by decide) (C := RX5) (T := TX5) (N := 21) (M_row _) rfl hin_X5 13 (by decide) hw839 rfl rfl dX5_adds_5 ?_
  refine lv_iload_n hx hb dX5_adds_8 rfl (lv_at hl 1 rfl) ?_
  obtain ⟨c1, hf⟩ := chk_some hf
  refine g_iald B h 58 (by decide) (n := 3) (fun _ => rfl) (inb_in c1) dX5_adds_9 ?_
  refine lv_iadd hx hb dX5_adds_10 ?_
  refine lv_istore (lv' := [(5, .int (((30 : Int32) * v1) + (σ 58 (v1).toNatClampNeg))), (0, .ref (ad 44)), (1, .int v1), (2, .int v2), (3, .int v3), (4, .int v4)]) hx hb dX5_adds_11 hl (by decide) rfl (fun ls hl => ?_)
  refine lv_aload_n hx hb dX5_adds_13 rfl (lv_at hl 1 rfl) ?_
  refine g_get B h 44 (by decide) (C := RX5) (T := TX5) (N := 21) (M_row _) rfl hin_X5 10 (by decide) hw836 rfl rfl dX5_adds_14 ?_
  refine lv_iload hx hb dX5_adds_17 (lv_at hl 0 rfl) ?_
  refine lv_iload_n hx hb dX5_adds_19 rfl (lv_at hl 3 rfl) ?_
  obtain ⟨c2, hf⟩ := chk_some hf
  refine g_cast B h 55 (by decide) (n := 90) (fun _ => rfl) (inb_in c2) dX5_adds_20 (fun H locs h => ?_)
  obtain ⟨σ3, e3, hf⟩ := stl_some hf
  rw [← e3] at h
  refine lv_aload_n hx hb dX5_adds_21 rfl (lv_at hl 1 rfl) ?_
  refine g_get B h 44 (by decide) (C := RX5) (T := TX5) (N := 21) (M_row _) rfl hin_X5 11 (by decide) hw837 rfl rfl dX5_adds_22 ?_
  refine lv_iload hx hb dX5_adds_25 (lv_at hl 0 rfl) ?_
  refine lv_iload_n hx hb dX5_adds_27 rfl (lv_at hl 4 rfl) ?_
  obtain ⟨c4, hf⟩ := chk_some hf
  refine g_iast B h 56 (by decide) (n := 90) (fun _ => rfl) (inb_in c4) dX5_adds_28 (fun H locs h => ?_)
  obtain ⟨σ5, e5, hf⟩ := stl_some hf
  rw [← e5] at h
  refine lv_aload_n hx hb dX5_adds_29 rfl (lv_at hl 1 rfl) ?_
  refine g_get B h 44 (by decide) (C := RX5) (T := TX5) (N := 21) (M_row _) rfl hin_X5 12 (by decide) hw838 rfl rfl dX5_adds_30 ?_
  refine lv_iload hx hb dX5_adds_33 (lv_at hl 0 rfl) ?_
  refine lv_iload hx hb dX5_adds_35 (lv_at hl 5 rfl) ?_
  obtain ⟨c6, hf⟩ := chk_some hf
  refine g_iast B h 57 (by decide) (n := 90) (fun _ => rfl) (inb_in c6) dX5_adds_37 (fun H locs h => ?_)
  obtain ⟨σ7, e7, hf⟩ := stl_some hf
  rw [← e7] at h
  refine lv_aload_n hx hb dX5_adds_38 rfl (lv_at hl 1 rfl) ?_
  refine g_get B h 44 (by decide) (C := RX5) (T := TX5) (N := 21) (M_row _) rfl hin_X5 13 (by decide) hw839 rfl rfl dX5_adds_39 ?_
  refine lv_iload_n hx hb dX5_adds_42 rfl (lv_at hl 2 rfl) ?_
  refine lv_dup2_11 hx hb dX5_adds_43 rfl rfl ?_
  obtain ⟨c8, hf⟩ := chk_some hf
  refine g_iald B h 58 (by decide) (n := 3) (fun _ => rfl) (inb_in c8) dX5_adds_44 ?_
  refine lv_iconst (v := (1 : Int32)) hx hb dX5_adds_45 (by decide) ?_
  refine lv_iadd hx hb dX5_adds_46 ?_
  obtain ⟨c9, hf⟩ := chk_some hf
  refine g_iast B h 58 (by decide) (n := 3) (fun _ => rfl) (inb_in c9) dX5_adds_47 (fun H locs h => ?_)
  obtain ⟨σ10, e10, hf⟩ := stl_some hf
  rw [← e10] at h
  obtain ⟨rfl, rfl⟩ := Prod.mk.inj (Option.some.inj hf)
  exact sE_v B hr h dX5_adds_48
set_option maxRecDepth 100000 in
theorem ok_X5_adds {l : Launch} (hl0 : l.stackTraces = false) {D : va_G} {cy : Nat → ClassId} {ad : Nat → Nat} (hap : sAp ad) (X : sX) (σ : sM) (v1 : Int32) (v2 : Int32) (v3 : Int32) (v4 : Int32) {r : Unit} {σ' : sM} (hf : f_X5_adds v1 v2 v3 v4 σ = some (r, σ')) : sMet l yX5_adds (sWs yX5_adds cX5_adds 6 none) 0 0 0 0 D cy ad X σ [.ref (ad 44), .int v1, .int v2, .int v3, .int v4] (.inr none) X σ' := by
  refine sMet_of (by decide +kernel) (Nat.le_of_ble_eq_true rfl) hap hl0 ?_
  intro p e s m args below meth c ls B hr htab hl h
  exact k_X5_adds_0 B hr _ _ _ _ _  hf _ _ _ h hl
set_option maxHeartbeats 4000000 in
set_option maxRecDepth 100000 in
theorem k_X5_firstOf_9 {p : Program} {l : Launch} {e : Env} {s : State} {m : MethodId} {args : Array Value} {below : List Frame} {meth : Method} {c : Code} {D : va_G} {cy : Nat → ClassId} {ad : Nat → Nat} {X : sX} {r : Int32} (B : sB p l s m meth c args cX5_firstOf 4 RX5 D cy ad) (hr : meth.sig.returnType = (some .int)) : ∀ (n : Nat) (v1 : Int32) (v2 : Int32) (v3 : Int32) (σ : sM), b_X5_firstOf_9 n v1 v2 v3 σ = some r → sGo p l e { frames := 0, cells := 0, slots := 0, locals := 0 } s m args below meth c D cy ad X 4 (sQ below args s 0 0 D cy ad (.inr (some (.int r))) X σ) σ 9 [(0, .ref (ad 44)), (1, .int v1), (2, .int v2), (3, .int v3)] [] := by
  intro n
  induction n with
  | zero =>
    intro v1 v2 v3 σ hf
    exact nomatch (show none = some r from hf)
  | succ n ih =>
    intro v1 v2 v3 σ hf
    replace hf : (chk (inb v2 3) (if (σ 47 (v2).toNatClampNeg) ≤ v3 then (some v3) else (chk (inb (((60 : Int32) * v2) + v3) 180) (chk (inb v1 4) (if (σ 45 ((((60 : Int32) * v2) + v3)).toNatClampNeg) < (σ 50 (v1).toNatClampNeg) then (b_X5_firstOf_9 n v1 v2 (v3 + 1) σ) else (chk (inb (((60 : Int32) * v2) + v3) 180) (chk (inb v1 4) (if (σ 45 ((((60 : Int32) * v2) + v3)).toNatClampNeg) = (σ 50 (v1).toNatClampNeg) then (chk (inb v1 4) (if (σ 52 (v1).toNatClampNeg) = 0 then (b_X5_firstOf_9 n v1 v2 (v3 + 1) σ) else (some v3))) else (some v3))))))))) = some r := hf
    intro H locs ls h hl
    have hx := B.1
    have hb := B.2.1
    refine lv_iload_n hx hb dX5_firstOf_9 rfl (lv_at hl 3 rfl) ?_
    refine lv_aload_n hx hb dX5_firstOf_10 rfl (lv_at hl 0 rfl) ?_
    refine g_get B h 44 (by decide) (C := RX5) (T := TX5) (N := 21) (M_row _) rfl hin_X5 2 (by decide) hw828 rfl rfl dX5_firstOf_11 ?_
    refine lv_iload_n hx hb dX5_firstOf_14 rfl (lv_at hl 2 rfl) ?_
    obtain ⟨c2, hf⟩ := chk_some hf
    refine g_iald B h 47 (by decide) (n := 3) (fun _ => rfl) (inb_in c2) dX5_firstOf_15 ?_
    refine lv_icmp_ge (tgt := 74) hx hb dX5_firstOf_16 (by decide) (fun c3 => ?_) (fun c3 => ?_)
    · rw [if_pos c3] at hf
      refine lv_iload_n hx hb dX5_firstOf_74 rfl (lv_at hl 3 rfl) ?_
      obtain rfl := Option.some.inj hf
      exact sE_i B hr h dX5_firstOf_75
    · rw [if_neg c3] at hf
      refine lv_aload_n hx hb dX5_firstOf_19 rfl (lv_at hl 0 rfl) ?_
      refine g_get B h 44 (by decide) (C := RX5) (T := TX5) (N := 21) (M_row _) rfl hin_X5 0 (by decide) hw826 rfl rfl dX5_firstOf_20 ?_
      refine lv_bipush (v := (60 : Int32)) hx hb dX5_firstOf_23 (by decide) ?_
      refine lv_iload_n hx hb dX5_firstOf_25 rfl (lv_at hl 2 rfl) ?_
      refine lv_imul hx hb dX5_firstOf_26 ?_
      refine lv_iload_n hx hb dX5_firstOf_27 rfl (lv_at hl 3 rfl) ?_
      refine lv_iadd hx hb dX5_firstOf_28 ?_
      obtain ⟨c4, hf⟩ := chk_some hf
      refine g_iald B h 45 (by decide) (n := 180) (fun _ => rfl) (inb_in c4) dX5_firstOf_29 ?_
      refine lv_aload_n hx hb dX5_firstOf_30 rfl (lv_at hl 0 rfl) ?_
      refine g_get B h 44 (by decide) (C := RX5) (T := TX5) (N := 21) (M_row _) rfl hin_X5 5 (by decide) hw831 rfl rfl dX5_firstOf_31 ?_
      refine lv_iload_n hx hb dX5_firstOf_34 rfl (lv_at hl 1 rfl) ?_
      obtain ⟨c5, hf⟩ := chk_some hf
      refine g_iald B h 50 (by decide) (n := 4) (fun _ => rfl) (inb_in c5) dX5_firstOf_35 ?_
      refine lv_icmp_lt (tgt := 68) hx hb dX5_firstOf_36 (by decide) (fun c6 => ?_) (fun c6 => ?_)
      · rw [if_pos c6] at hf
        refine lv_iinc (v := (v3 + 1)) (lv' := [(3, .int (v3 + 1)), (0, .ref (ad 44)), (1, .int v1), (2, .int v2)]) hx hb dX5_firstOf_68 hl (k := 3) rfl rfl (by decide) rfl (fun ls hl => ?_)
        refine lv_goto (tgt := 9) hx hb dX5_firstOf_71 (by decide) ?_
        exact ih _ _ _ _ hf _ _ _ h (lv_sub hl [1, 2, 3, 0] rfl)
      · rw [if_neg c6] at hf
        refine lv_aload_n hx hb dX5_firstOf_39 rfl (lv_at hl 0 rfl) ?_
        refine g_get B h 44 (by decide) (C := RX5) (T := TX5) (N := 21) (M_row _) rfl hin_X5 0 (by decide) hw826 rfl rfl dX5_firstOf_40 ?_
        refine lv_bipush (v := (60 : Int32)) hx hb dX5_firstOf_43 (by decide) ?_
        refine lv_iload_n hx hb dX5_firstOf_45 rfl (lv_at hl 2 rfl) ?_
        refine lv_imul hx hb dX5_firstOf_46 ?_
        refine lv_iload_n hx hb dX5_firstOf_47 rfl (lv_at hl 3 rfl) ?_
        refine lv_iadd hx hb dX5_firstOf_48 ?_
        obtain ⟨c7, hf⟩ := chk_some hf
        refine g_iald B h 45 (by decide) (n := 180) (fun _ => rfl) (inb_in c7) dX5_firstOf_49 ?_
        refine lv_aload_n hx hb dX5_firstOf_50 rfl (lv_at hl 0 rfl) ?_
        refine g_get B h 44 (by decide) (C := RX5) (T := TX5) (N := 21) (M_row _) rfl hin_X5 5 (by decide) hw831 rfl rfl dX5_firstOf_51 ?_
        refine lv_iload_n hx hb dX5_firstOf_54 rfl (lv_at hl 1 rfl) ?_
        obtain ⟨c8, hf⟩ := chk_some hf
        refine g_iald B h 50 (by decide) (n := 4) (fun _ => rfl) (inb_in c8) dX5_firstOf_55 ?_
        refine lv_icmp_ne (tgt := 74) hx hb dX5_firstOf_56 (by decide) (fun c9 => ?_) (fun c9 => ?_)
        · rw [if_neg c9] at hf
          refine lv_iload_n hx hb dX5_firstOf_74 rfl (lv_at hl 3 rfl) ?_
          obtain rfl := Option.some.inj hf
          exact sE_i B hr h dX5_firstOf_75
        · rw [if_pos c9] at hf
          refine lv_aload_n hx hb dX5_firstOf_59 rfl (lv_at hl 0 rfl) ?_
          refine g_get B h 44 (by decide) (C := RX5) (T := TX5) (N := 21) (M_row _) rfl hin_X5 7 (by decide) hw833 rfl rfl dX5_firstOf_60 ?_
          refine lv_iload_n hx hb dX5_firstOf_63 rfl (lv_at hl 1 rfl) ?_
          obtain ⟨c10, hf⟩ := chk_some hf
          refine g_zald B h 52 (by decide) (n := 4) (fun _ => rfl) (inb_in c10) dX5_firstOf_64 ?_
          refine lv_if_ne (tgt := 74) hx hb dX5_firstOf_65 (by decide) (fun c11 => ?_) (fun c11 => ?_)
          · rw [if_neg c11] at hf
            refine lv_iload_n hx hb dX5_firstOf_74 rfl (lv_at hl 3 rfl) ?_
            obtain rfl := Option.some.inj hf
            exact sE_i B hr h dX5_firstOf_75
          · rw [if_pos c11] at hf
            refine lv_iinc (v := (v3 + 1)) (lv' := [(3, .int (v3 + 1)), (0, .ref (ad 44)), (1, .int v1), (2, .int v2)]) hx hb dX5_firstOf_68 hl (k := 3) rfl rfl (by decide) rfl (fun ls hl => ?_)
            refine lv_goto (tgt := 9) hx hb dX5_firstOf_71 (by decide) ?_
            exact ih _ _ _ _ hf _ _ _ h (lv_sub hl [1, 2, 3, 0] rfl)
set_option maxHeartbeats 4000000 in
set_option maxRecDepth 100000 in
theorem k_X5_firstOf_0 {p : Program} {l : Launch} {e : Env} {s : State} {m : MethodId} {args : Array Value} {below : List Frame} {meth : Method} {c : Code} {D : va_G} {cy : Nat → ClassId} {ad : Nat → Nat} {X : sX} {r : Int32} (B : sB p l s m meth c args cX5_firstOf 4 RX5 D cy ad) (hr : meth.sig.returnType = (some .int)) (v1 : Int32) (σ : sM) (hf : f_X5_firstOf v1 σ = some r) : sGo p l e { frames := 0, cells := 0, slots := 0, locals := 0 } s m args below meth c D cy ad X 4 (sQ below args s 0 0 D cy ad (.inr (some (.int r))) X σ) σ 0 [(0, .ref (ad 44)), (1, .int v1)] [] := by
  replace hf : (chk (inb v1 4) (b_X5_firstOf_9 FU v1 (σ 49 (v1).toNatClampNeg) (0 : Int32) σ)) = some r := hf
  intro H locs ls h hl
  have hx := B.1
  have hb := B.2.1
  refine lv_aload_n hx hb dX5_firstOf_0 rfl (lv_at hl 0 rfl) ?_
  refine g_get B h 44 (by decide) (C := RX5) (T := TX5) (N := 21) (M_row _) rfl hin_X5 4 (by decide) hw830 rfl rfl dX5_firstOf_1 ?_
  refine lv_iload_n hx hb dX5_firstOf_4 rfl (lv_at hl 1 rfl) ?_
  obtain ⟨c1, hf⟩ := chk_some hf
  refine g_iald B h 49 (by decide) (n := 4) (fun _ => rfl) (inb_in c1) dX5_firstOf_5 ?_
  refine lv_istore_n (lv' := [(2, .int (σ 49 (v1).toNatClampNeg)), (0, .ref (ad 44)), (1, .int v1)]) hx hb dX5_firstOf_6 rfl hl (by decide) rfl (fun ls hl => ?_)
  refine lv_iconst (v := (0 : Int32)) hx hb dX5_firstOf_7 (by decide) ?_
  refine lv_istore_n (lv' := [(3, .int (0 : Int32)), (2, .int (σ 49 (v1).toNatClampNeg)), (0, .ref (ad 44)), (1, .int v1)]) hx hb dX5_firstOf_8 rfl hl (by decide) rfl (fun ls hl => ?_)
  exact k_X5_firstOf_9 B hr  _ _ _ _ _ hf _ _ _ h (lv_sub hl [2, 3, 1, 0] rfl)
set_option maxRecDepth 100000 in
theorem ok_X5_firstOf {l : Launch} (hl0 : l.stackTraces = false) {D : va_G} {cy : Nat → ClassId} {ad : Nat → Nat} (hap : sAp ad) (X : sX) (σ : sM) (v1 : Int32) {r : Int32} (hf : f_X5_firstOf v1 σ = some r) : sMet l yX5_firstOf (sWs yX5_firstOf cX5_firstOf 4 (some .int)) 0 0 0 0 D cy ad X σ [.ref (ad 44), .int v1] (.inr (some (.int r))) X σ := by
  refine sMet_of (by decide +kernel) (Nat.le_of_ble_eq_true rfl) hap hl0 ?_
  intro p e s m args below meth c ls B hr htab hl h
  exact k_X5_firstOf_0 B hr _ _  hf _ _ _ h hl
set_option maxHeartbeats 4000000 in
set_option maxRecDepth 100000 in
theorem k_X5_isIn_42 {p : Program} {l : Launch} {e : Env} {s : State} {m : MethodId} {args : Array Value} {below : List Frame} {meth : Method} {c : Code} {D : va_G} {cy : Nat → ClassId} {ad : Nat → Nat} {X : sX} {r : Int32} (B : sB p l s m meth c args cX5_isIn 5 RX5 D cy ad) (hr : meth.sig.returnType = (some .boolean)) (v1 : Int32) (v2 : Int32) (vs0 : Int32) (σ : sM) (hf : b_X5_isIn_42 v1 v2 vs0 σ = some r) : sGo p l e { frames := 0, cells := 0, slots := 0, locals := 0 } s m args below meth c D cy ad X 5 (sQ below args s 0 0 D cy ad (.inr (some (.int r))) X σ) σ 42 [(0, .ref (ad 44)), (1, .int v1), (2, .int v2)] [.int vs0] := by
  replace hf : (chk (inb v1 4) (if (σ 53 (v1).toNatClampNeg) = 0 then (chk (inb v1 4) (if (σ 51 (v1).toNatClampNeg) ≤ v2 then (if vs0 = 0 then (some (0 : Int32)) else (some (0 : Int32))) else (if vs0 = 0 then (some (0 : Int32)) else (some (1 : Int32))))) else (chk (inb v1 4) (if (σ 51 (v1).toNatClampNeg) < v2 then (if vs0 = 0 then (some (0 : Int32)) else (some (0 : Int32))) else (if vs0 = 0 then (some (0 : Int32)) else (some (1 : Int32))))))) = some r := hf
  intro H locs ls h hl
  have hx := B.1
  have hb := B.2.1
  refine lv_istore_n (lv' := [(3, .int vs0), (0, .ref (ad 44)), (1, .int v1), (2, .int v2)]) hx hb dX5_isIn_42 rfl hl (by decide) rfl (fun ls hl => ?_)
  refine lv_aload_n hx hb dX5_isIn_43 rfl (lv_at hl 1 rfl) ?_
  refine g_get B h 44 (by decide) (C := RX5) (T := TX5) (N := 21) (M_row _) rfl hin_X5 8 (by decide) hw834 rfl rfl dX5_isIn_44 ?_
  refine lv_iload_n hx hb dX5_isIn_47 rfl (lv_at hl 2 rfl) ?_
  obtain ⟨c7, hf⟩ := chk_some hf
  refine g_zald B h 53 (by decide) (n := 4) (fun _ => rfl) (inb_in c7) dX5_isIn_48 ?_
  refine lv_if_eq (tgt := 70) hx hb dX5_isIn_49 (by decide) (fun c8 => ?_) (fun c8 => ?_)
  · rw [if_pos c8] at hf
    refine lv_iload_n hx hb dX5_isIn_70 rfl (lv_at hl 3 rfl) ?_
    refine lv_aload_n hx hb dX5_isIn_71 rfl (lv_at hl 1 rfl) ?_
    refine g_get B h 44 (by decide) (C := RX5) (T := TX5) (N := 21) (M_row _) rfl hin_X5 6 (by decide) hw832 rfl rfl dX5_isIn_72 ?_
    refine lv_iload_n hx hb dX5_isIn_75 rfl (lv_at hl 2 rfl) ?_
    obtain ⟨c9, hf⟩ := chk_some hf
    refine g_iald B h 51 (by decide) (n := 4) (fun _ => rfl) (inb_in c9) dX5_isIn_76 ?_
    refine lv_icmp_ge (tgt := 84) hx hb dX5_isIn_77 (by decide) (fun c10 => ?_) (fun c10 => ?_)
    · rw [if_pos c10] at hf
      refine lv_iconst (v := (0 : Int32)) hx hb dX5_isIn_84 (by decide) ?_
      refine lv_istore (lv' := [(4, .int (0 : Int32)), (3, .int vs0), (0, .ref (ad 44)), (1, .int v1), (2, .int v2)]) hx hb dX5_isIn_85 hl (by decide) rfl (fun ls hl => ?_)
      refine lv_iload_n hx hb dX5_isIn_87 rfl (lv_at hl 1 rfl) ?_
      refine lv_if_eq (tgt := 100) hx hb dX5_isIn_88 (by decide) (fun c11 => ?_) (fun c11 => ?_)
      · rw [if_pos c11] at hf
        refine lv_iconst (v := (0 : Int32)) hx hb dX5_isIn_100 (by decide) ?_
        obtain rfl := Option.some.inj hf
        exact sE_z B hr h rfl dX5_isIn_101
      · rw [if_neg c11] at hf
        refine lv_iload hx hb dX5_isIn_91 (lv_at hl 0 rfl) ?_
        refine lv_if_eq (tgt := 100) hx hb dX5_isIn_93 (by decide) (fun _ => ?_) (fun c12 => absurd (by decide) c12)
        refine lv_iconst (v := (0 : Int32)) hx hb dX5_isIn_100 (by decide) ?_
        obtain rfl := Option.some.inj hf
        exact sE_z B hr h rfl dX5_isIn_101
    · rw [if_neg c10] at hf
      refine lv_iconst (v := (1 : Int32)) hx hb dX5_isIn_80 (by decide) ?_
      refine lv_goto (tgt := 85) hx hb dX5_isIn_81 (by decide) ?_
      refine lv_istore (lv' := [(4, .int (1 : Int32)), (3, .int vs0), (0, .ref (ad 44)), (1, .int v1), (2, .int v2)]) hx hb dX5_isIn_85 hl (by decide) rfl (fun ls hl => ?_)
      refine lv_iload_n hx hb dX5_isIn_87 rfl (lv_at hl 1 rfl) ?_
      refine lv_if_eq (tgt := 100) hx hb dX5_isIn_88 (by decide) (fun c13 => ?_) (fun c13 => ?_)
      · rw [if_pos c13] at hf
        refine lv_iconst (v := (0 : Int32)) hx hb dX5_isIn_100 (by decide) ?_
        obtain rfl := Option.some.inj hf
        exact sE_z B hr h rfl dX5_isIn_101
      · rw [if_neg c13] at hf
        refine lv_iload hx hb dX5_isIn_91 (lv_at hl 0 rfl) ?_
        refine lv_if_eq (tgt := 100) hx hb dX5_isIn_93 (by decide) (fun c14 => absurd c14 (by decide)) (fun _ => ?_)
        refine lv_iconst (v := (1 : Int32)) hx hb dX5_isIn_96 (by decide) ?_
        refine lv_goto (tgt := 101) hx hb dX5_isIn_97 (by decide) ?_
        obtain rfl := Option.some.inj hf
        exact sE_z B hr h rfl dX5_isIn_101
  · rw [if_neg c8] at hf
    refine lv_iload_n hx hb dX5_isIn_52 rfl (lv_at hl 3 rfl) ?_
    refine lv_aload_n hx hb dX5_isIn_53 rfl (lv_at hl 1 rfl) ?_
    refine g_get B h 44 (by decide) (C := RX5) (T := TX5) (N := 21) (M_row _) rfl hin_X5 6 (by decide) hw832 rfl rfl dX5_isIn_54 ?_
    refine lv_iload_n hx hb dX5_isIn_57 rfl (lv_at hl 2 rfl) ?_
    obtain ⟨c15, hf⟩ := chk_some hf
    refine g_iald B h 51 (by decide) (n := 4) (fun _ => rfl) (inb_in c15) dX5_isIn_58 ?_
    refine lv_icmp_gt (tgt := 66) hx hb dX5_isIn_59 (by decide) (fun c16 => ?_) (fun c16 => ?_)
    · rw [if_pos c16] at hf
      refine lv_iconst (v := (0 : Int32)) hx hb dX5_isIn_66 (by decide) ?_
      refine lv_goto (tgt := 85) hx hb dX5_isIn_67 (by decide) ?_
      refine lv_istore (lv' := [(4, .int (0 : Int32)), (3, .int vs0), (0, .ref (ad 44)), (1, .int v1), (2, .int v2)]) hx hb dX5_isIn_85 hl (by decide) rfl (fun ls hl => ?_)
      refine lv_iload_n hx hb dX5_isIn_87 rfl (lv_at hl 1 rfl) ?_
      refine lv_if_eq (tgt := 100) hx hb dX5_isIn_88 (by decide) (fun c17 => ?_) (fun c17 => ?_)
      · rw [if_pos c17] at hf
        refine lv_iconst (v := (0 : Int32)) hx hb dX5_isIn_100 (by decide) ?_
        obtain rfl := Option.some.inj hf
        exact sE_z B hr h rfl dX5_isIn_101
      · rw [if_neg c17] at hf
        refine lv_iload hx hb dX5_isIn_91 (lv_at hl 0 rfl) ?_
        refine lv_if_eq (tgt := 100) hx hb dX5_isIn_93 (by decide) (fun _ => ?_) (fun c18 => absurd (by decide) c18)
        refine lv_iconst (v := (0 : Int32)) hx hb dX5_isIn_100 (by decide) ?_
        obtain rfl := Option.some.inj hf
        exact sE_z B hr h rfl dX5_isIn_101
    · rw [if_neg c16] at hf
      refine lv_iconst (v := (1 : Int32)) hx hb dX5_isIn_62 (by decide) ?_
      refine lv_goto (tgt := 85) hx hb dX5_isIn_63 (by decide) ?_
      refine lv_istore (lv' := [(4, .int (1 : Int32)), (3, .int vs0), (0, .ref (ad 44)), (1, .int v1), (2, .int v2)]) hx hb dX5_isIn_85 hl (by decide) rfl (fun ls hl => ?_)
      refine lv_iload_n hx hb dX5_isIn_87 rfl (lv_at hl 1 rfl) ?_
      refine lv_if_eq (tgt := 100) hx hb dX5_isIn_88 (by decide) (fun c19 => ?_) (fun c19 => ?_)
      · rw [if_pos c19] at hf
        refine lv_iconst (v := (0 : Int32)) hx hb dX5_isIn_100 (by decide) ?_
        obtain rfl := Option.some.inj hf
        exact sE_z B hr h rfl dX5_isIn_101
      · rw [if_neg c19] at hf
        refine lv_iload hx hb dX5_isIn_91 (lv_at hl 0 rfl) ?_
        refine lv_if_eq (tgt := 100) hx hb dX5_isIn_93 (by decide) (fun c20 => absurd c20 (by decide)) (fun _ => ?_)
        refine lv_iconst (v := (1 : Int32)) hx hb dX5_isIn_96 (by decide) ?_
        refine lv_goto (tgt := 101) hx hb dX5_isIn_97 (by decide) ?_
        obtain rfl := Option.some.inj hf
        exact sE_z B hr h rfl dX5_isIn_101
set_option maxHeartbeats 4000000 in
set_option maxRecDepth 100000 in
theorem k_X5_isIn_0 {p : Program} {l : Launch} {e : Env} {s : State} {m : MethodId} {args : Array Value} {below : List Frame} {meth : Method} {c : Code} {D : va_G} {cy : Nat → ClassId} {ad : Nat → Nat} {X : sX} {r : Int32} (B : sB p l s m meth c args cX5_isIn 5 RX5 D cy ad) (hr : meth.sig.returnType = (some .boolean)) (v1 : Int32) (v2 : Int32) (σ : sM) (hf : f_X5_isIn v1 v2 σ = some r) : sGo p l e { frames := 0, cells := 0, slots := 0, locals := 0 } s m args below meth c D cy ad X 5 (sQ below args s 0 0 D cy ad (.inr (some (.int r))) X σ) σ 0 [(0, .ref (ad 44)), (1, .int v1), (2, .int v2)] [] := by
  replace hf : (chk (inb v1 4) (if (σ 52 (v1).toNatClampNeg) = 0 then (chk (inb v1 4) (if v2 ≤ (σ 50 (v1).toNatClampNeg) then (b_X5_isIn_42 v1 v2 (0 : Int32) σ) else (b_X5_isIn_42 v1 v2 (1 : Int32) σ))) else (chk (inb v1 4) (if v2 < (σ 50 (v1).toNatClampNeg) then (b_X5_isIn_42 v1 v2 (0 : Int32) σ) else (b_X5_isIn_42 v1 v2 (1 : Int32) σ))))) = some r := hf
  intro H locs ls h hl
  have hx := B.1
  have hb := B.2.1
  refine lv_aload_n hx hb dX5_isIn_0 rfl (lv_at hl 0 rfl) ?_
  refine g_get B h 44 (by decide) (C := RX5) (T := TX5) (N := 21) (M_row _) rfl hin_X5 7 (by decide) hw833 rfl rfl dX5_isIn_1 ?_
  refine lv_iload_n hx hb dX5_isIn_4 rfl (lv_at hl 1 rfl) ?_
  obtain ⟨c1, hf⟩ := chk_some hf
  refine g_zald B h 52 (by decide) (n := 4) (fun _ => rfl) (inb_in c1) dX5_isIn_5 ?_
  refine lv_if_eq (tgt := 27) hx hb dX5_isIn_6 (by decide) (fun c2 => ?_) (fun c2 => ?_)
  · rw [if_pos c2] at hf
    refine lv_iload_n hx hb dX5_isIn_27 rfl (lv_at hl 2 rfl) ?_
    refine lv_aload_n hx hb dX5_isIn_28 rfl (lv_at hl 0 rfl) ?_
    refine g_get B h 44 (by decide) (C := RX5) (T := TX5) (N := 21) (M_row _) rfl hin_X5 5 (by decide) hw831 rfl rfl dX5_isIn_29 ?_
    refine lv_iload_n hx hb dX5_isIn_32 rfl (lv_at hl 1 rfl) ?_
    obtain ⟨c3, hf⟩ := chk_some hf
    refine g_iald B h 50 (by decide) (n := 4) (fun _ => rfl) (inb_in c3) dX5_isIn_33 ?_
    refine lv_icmp_le (tgt := 41) hx hb dX5_isIn_34 (by decide) (fun c4 => ?_) (fun c4 => ?_)
    · rw [if_pos c4] at hf
      refine lv_iconst (v := (0 : Int32)) hx hb dX5_isIn_41 (by decide) ?_
      exact k_X5_isIn_42 B hr  _ _ _ _ hf _ _ _ h (lv_sub hl [0, 1, 2] rfl)
    · rw [if_neg c4] at hf
      refine lv_iconst (v := (1 : Int32)) hx hb dX5_isIn_37 (by decide) ?_
      refine lv_goto (tgt := 42) hx hb dX5_isIn_38 (by decide) ?_
      exact k_X5_isIn_42 B hr  _ _ _ _ hf _ _ _ h (lv_sub hl [0, 1, 2] rfl)
  · rw [if_neg c2] at hf
    refine lv_iload_n hx hb dX5_isIn_9 rfl (lv_at hl 2 rfl) ?_
    refine lv_aload_n hx hb dX5_isIn_10 rfl (lv_at hl 0 rfl) ?_
    refine g_get B h 44 (by decide) (C := RX5) (T := TX5) (N := 21) (M_row _) rfl hin_X5 5 (by decide) hw831 rfl rfl dX5_isIn_11 ?_
    refine lv_iload_n hx hb dX5_isIn_14 rfl (lv_at hl 1 rfl) ?_
    obtain ⟨c5, hf⟩ := chk_some hf
    refine g_iald B h 50 (by decide) (n := 4) (fun _ => rfl) (inb_in c5) dX5_isIn_15 ?_
    refine lv_icmp_lt (tgt := 23) hx hb dX5_isIn_16 (by decide) (fun c6 => ?_) (fun c6 => ?_)
    · rw [if_pos c6] at hf
      refine lv_iconst (v := (0 : Int32)) hx hb dX5_isIn_23 (by decide) ?_
      refine lv_goto (tgt := 42) hx hb dX5_isIn_24 (by decide) ?_
      exact k_X5_isIn_42 B hr  _ _ _ _ hf _ _ _ h (lv_sub hl [0, 1, 2] rfl)
    · rw [if_neg c6] at hf
      refine lv_iconst (v := (1 : Int32)) hx hb dX5_isIn_19 (by decide) ?_
      refine lv_goto (tgt := 42) hx hb dX5_isIn_20 (by decide) ?_
      exact k_X5_isIn_42 B hr  _ _ _ _ hf _ _ _ h (lv_sub hl [0, 1, 2] rfl)
set_option maxRecDepth 100000 in
theorem ok_X5_isIn {l : Launch} (hl0 : l.stackTraces = false) {D : va_G} {cy : Nat → ClassId} {ad : Nat → Nat} (hap : sAp ad) (X : sX) (σ : sM) (v1 : Int32) (v2 : Int32) {r : Int32} (hf : f_X5_isIn v1 v2 σ = some r) : sMet l yX5_isIn (sWs yX5_isIn cX5_isIn 5 (some .boolean)) 0 0 0 0 D cy ad X σ [.ref (ad 44), .int v1, .int v2] (.inr (some (.int r))) X σ := by
  refine sMet_of (by decide +kernel) (Nat.le_of_ble_eq_true rfl) hap hl0 ?_
  intro p e s m args below meth c ls B hr htab hl h
  exact k_X5_isIn_0 B hr _ _ _  hf _ _ _ h hl
set_option maxHeartbeats 4000000 in
set_option maxRecDepth 100000 in
theorem k_X5_behindOf_13 {p : Program} {l : Launch} {e : Env} {s : State} {m : MethodId} {args : Array Value} {below : List Frame} {meth : Method} {c : Code} {D : va_G} {cy : Nat → ClassId} {ad : Nat → Nat} {X : sX} {r : Int32} (B : sB p l s m meth c args cX5_behindOf 4 RX5 D cy ad) (hr : meth.sig.returnType = (some .int)) : ∀ (n : Nat) (v1 : Int32) (v2 : Int32) (v3 : Int32) (σ : sM), b_X5_behindOf_13 n v1 v2 v3 σ = some r → sGo p l e { frames := 1, cells := 0, slots := 0, locals := 24 } s m args below meth c D cy ad X 4 (sQ below args s 0 0 D cy ad (.inr (some (.int r))) X σ) σ 13 [(0, .ref (ad 44)), (1, .int v1), (2, .int v2), (3, .int v3)] [] := by
  intro n
  induction n with
  | zero =>
    intro v1 v2 v3 σ hf
    exact nomatch (show none = some r from hf)
  | succ n ih =>
    intro v1 v2 v3 σ hf
    replace hf : (chk (inb v2 3) (if (σ 47 (v2).toNatClampNeg) ≤ v3 then (some v3) else (chk (inb (((60 : Int32) * v2) + v3) 180) (rthn (f_X5_isIn v1 (σ 45 ((((60 : Int32) * v2) + v3)).toNatClampNeg) σ) (fun vr6 => if vr6 = 0 then (some v3) else (b_X5_behindOf_13 n v1 v2 (v3 + 1) σ)))))) = some r := hf
    intro H locs ls h hl
    have hx := B.1
    have hb := B.2.1
    refine lv_iload_n hx hb dX5_behindOf_13 rfl (lv_at hl 3 rfl) ?_
    refine lv_aload_n hx hb dX5_behindOf_14 rfl (lv_at hl 0 rfl) ?_
    refine g_get B h 44 (by decide) (C := RX5) (T := TX5) (N := 21) (M_row _) rfl hin_X5 2 (by decide) hw828 rfl rfl dX5_behindOf_15 ?_
    refine lv_iload_n hx hb dX5_behindOf_18 rfl (lv_at hl 2 rfl) ?_
    obtain ⟨c3, hf⟩ := chk_some hf
    refine g_iald B h 47 (by decide) (n := 3) (fun _ => rfl) (inb_in c3) dX5_behindOf_19 ?_
    refine lv_icmp_ge (tgt := 48) hx hb dX5_behindOf_20 (by decide) (fun c4 => ?_) (fun c4 => ?_)
    · rw [if_pos c4] at hf
      refine lv_iload_n hx hb dX5_behindOf_48 rfl (lv_at hl 3 rfl) ?_
      obtain rfl := Option.some.inj hf
      exact sE_i B hr h dX5_behindOf_49
    · rw [if_neg c4] at hf
      refine lv_aload_n hx hb dX5_behindOf_23 rfl (lv_at hl 0 rfl) ?_
      refine lv_iload_n hx hb dX5_behindOf_24 rfl (lv_at hl 1 rfl) ?_
      refine lv_aload_n hx hb dX5_behindOf_25 rfl (lv_at hl 0 rfl) ?_
      refine g_get B h 44 (by decide) (C := RX5) (T := TX5) (N := 21) (M_row _) rfl hin_X5 0 (by decide) hw826 rfl rfl dX5_behindOf_26 ?_
      refine lv_bipush (v := (60 : Int32)) hx hb dX5_behindOf_29 (by decide) ?_
      refine lv_iload_n hx hb dX5_behindOf_31 rfl (lv_at hl 2 rfl) ?_
      refine lv_imul hx hb dX5_behindOf_32 ?_
      refine lv_iload_n hx hb dX5_behindOf_33 rfl (lv_at hl 3 rfl) ?_
      refine lv_iadd hx hb dX5_behindOf_34 ?_
      obtain ⟨c5, hf⟩ := chk_some hf
      refine g_iald B h 45 (by decide) (n := 180) (fun _ => rfl) (inb_in c5) dX5_behindOf_35 ?_
      obtain ⟨vr6, hq6, hf⟩ := rthn_some hf
      refine sRetC1 (g_runV (k := 44) (T := TX5) (N := 21) B h (ok_X5_isIn B.2.2.2.2.2.2.2.2 B.2.2.2.2.2.2.1 _ _ v1 (σ 45 ((((60 : Int32) * v2) + v3)).toNatClampNeg) hq6) cw_X5_120 ⟨Nat.le_of_ble_eq_true rfl, Nat.le_of_ble_eq_true rfl⟩ (by decide) (M_row _) rfl rfl hl.1.symm rfl (Nat.le_of_ble_eq_true rfl) dX5_behindOf_36 ⟨Nat.zero_le _, Nat.zero_le _⟩) h (fun H locs h => ?_)
      refine lv_if_eq (tgt := 48) hx hb dX5_behindOf_39 (by decide) (fun c7 => ?_) (fun c7 => ?_)
      · rw [if_pos c7] at hf
        refine lv_iload_n hx hb dX5_behindOf_48 rfl (lv_at hl 3 rfl) ?_
        obtain rfl := Option.some.inj hf
        exact sE_i B hr h dX5_behindOf_49
      · rw [if_neg c7] at hf
        refine lv_iinc (v := (v3 + 1)) (lv' := [(3, .int (v3 + 1)), (0, .ref (ad 44)), (1, .int v1), (2, .int v2)]) hx hb dX5_behindOf_42 hl (k := 3) rfl rfl (by decide) rfl (fun ls hl => ?_)
        refine lv_goto (tgt := 13) hx hb dX5_behindOf_45 (by decide) ?_
        exact ih _ _ _ _ hf _ _ _ h (lv_sub hl [1, 2, 3, 0] rfl)
set_option maxHeartbeats 4000000 in
set_option maxRecDepth 100000 in
theorem k_X5_behindOf_0 {p : Program} {l : Launch} {e : Env} {s : State} {m : MethodId} {args : Array Value} {below : List Frame} {meth : Method} {c : Code} {D : va_G} {cy : Nat → ClassId} {ad : Nat → Nat} {X : sX} {r : Int32} (B : sB p l s m meth c args cX5_behindOf 4 RX5 D cy ad) (hr : meth.sig.returnType = (some .int)) (v1 : Int32) (σ : sM) (hf : f_X5_behindOf v1 σ = some r) : sGo p l e { frames := 1, cells := 0, slots := 0, locals := 24 } s m args below meth c D cy ad X 4 (sQ below args s 0 0 D cy ad (.inr (some (.int r))) X σ) σ 0 [(0, .ref (ad 44)), (1, .int v1)] [] := by
  replace hf : (chk (inb v1 4) (rthn (f_X5_firstOf v1 σ) (fun vr2 => b_X5_behindOf_13 FU v1 (σ 49 (v1).toNatClampNeg) vr2 σ))) = some r := hf
  intro H locs ls h hl
  have hx := B.1
  have hb := B.2.1
  refine lv_aload_n hx hb dX5_behindOf_0 rfl (lv_at hl 0 rfl) ?_
  refine g_get B h 44 (by decide) (C := RX5) (T := TX5) (N := 21) (M_row _) rfl hin_X5 4 (by decide) hw830 rfl rfl dX5_behindOf_1 ?_
  refine lv_iload_n hx hb dX5_behindOf_4 rfl (lv_at hl 1 rfl) ?_
  obtain ⟨c1, hf⟩ := chk_some hf
  refine g_iald B h 49 (by decide) (n := 4) (fun _ => rfl) (inb_in c1) dX5_behindOf_5 ?_
  refine lv_istore_n (lv' := [(2, .int (σ 49 (v1).toNatClampNeg)), (0, .ref (ad 44)), (1, .int v1)]) hx hb dX5_behindOf_6 rfl hl (by decide) rfl (fun ls hl => ?_)
  refine lv_aload_n hx hb dX5_behindOf_7 rfl (lv_at hl 1 rfl) ?_
  refine lv_iload_n hx hb dX5_behindOf_8 rfl (lv_at hl 2 rfl) ?_
  obtain ⟨vr2, hq2, hf⟩ := rthn_some hf
  refine sRetC1 (g_runV (k := 44) (T := TX5) (N := 21) B h (ok_X5_firstOf B.2.2.2.2.2.2.2.2 B.2.2.2.2.2.2.1 _ _ v1 hq2) cw_X5_116 ⟨Nat.le_of_ble_eq_true rfl, Nat.le_of_ble_eq_true rfl⟩ (by decide) (M_row _) rfl rfl hl.1.symm rfl (Nat.le_of_ble_eq_true rfl) dX5_behindOf_9 ⟨Nat.zero_le _, Nat.zero_le _⟩) h (fun H locs h => ?_)
  refine lv_istore_n (lv' := [(3, .int vr2), (2, .int (σ 49 (v1).toNatClampNeg)), (0, .ref (ad 44)), (1, .int v1)]) hx hb dX5_behindOf_12 rfl hl (by decide) rfl (fun ls hl => ?_)
  exact k_X5_behindOf_13 B hr  _ _ _ _ _ hf _ _ _ h (lv_sub hl [2, 3, 1, 0] rfl)
set_option maxRecDepth 100000 in
theorem ok_X5_behindOf {l : Launch} (hl0 : l.stackTraces = false) {D : va_G} {cy : Nat → ClassId} {ad : Nat → Nat} (hap : sAp ad) (X : sX) (σ : sM) (v1 : Int32) {r : Int32} (hf : f_X5_behindOf v1 σ = some r) : sMet l yX5_behindOf (sWs yX5_behindOf cX5_behindOf 4 (some .int)) 1 24 0 0 D cy ad X σ [.ref (ad 44), .int v1] (.inr (some (.int r))) X σ := by
  refine sMet_of (by decide +kernel) (Nat.le_of_ble_eq_true rfl) hap hl0 ?_
  intro p e s m args below meth c ls B hr htab hl h
  exact k_X5_behindOf_0 B hr _ _  hf _ _ _ h hl
set_option maxHeartbeats 4000000 in
set_option maxRecDepth 100000 in
theorem k_X5_manyOf_0 {p : Program} {l : Launch} {e : Env} {s : State} {m : MethodId} {args : Array Value} {below : List Frame} {meth : Method} {c : Code} {D : va_G} {cy : Nat → ClassId} {ad : Nat → Nat} {X : sX} {r : Int32} (B : sB p l s m meth c args cX5_manyOf 2 RX5 D cy ad) (hr : meth.sig.returnType = (some .int)) (v1 : Int32) (σ : sM) (hf : f_X5_manyOf v1 σ = some r) : sGo p l e { frames := 2, cells := 0, slots := 0, locals := 47 } s m args below meth c D cy ad X 2 (sQ below args s 0 0 D cy ad (.inr (some (.int r))) X σ) σ 0 [(0, .ref (ad 44)), (1, .int v1)] [] := by
  replace hf : (rthn (f_X5_behindOf v1 σ) (fun vr1 => rthn (f_X5_firstOf v1 σ) (fun vr2 => some (vr1 - vr2)))) = some r := hf
  intro H locs ls h hl
  have hx := B.1
  have hb := B.2.1
  refine lv_aload_n hx hb dX5_manyOf_0 rfl (lv_at hl 0 rfl) ?_
  refine lv_iload_n hx hb dX5_manyOf_1 rfl (lv_at hl 1 rfl) ?_
  obtain ⟨vr1, hq1, hf⟩ := rthn_some hf
  refine sRetC1 (g_runV (k := 44) (T := TX5) (N := 21) B h (ok_X5_behindOf B.2.2.2.2.2.2.2.2 B.2.2.2.2.2.2.1 _ _ v1 hq1) cw_X5_123 ⟨Nat.le_of_ble_eq_true rfl, Nat.le_of_ble_eq_true rfl⟩ (by decide) (M_row _) rfl rfl hl.1.symm rfl (Nat.le_of_ble_eq_true rfl) dX5_manyOf_2 ⟨Nat.zero_le _, Nat.zero_le _⟩) h (fun H locs h => ?_)
  refine lv_aload_n hx hb dX5_manyOf_5 rfl (lv_at hl 0 rfl) ?_
  refine lv_iload_n hx hb dX5_manyOf_6 rfl (lv_at hl 1 rfl) ?_
  obtain ⟨vr2, hq2, hf⟩ := rthn_some hf
  refine sRetC1 (g_runV (k := 44) (T := TX5) (N := 21) B h (ok_X5_firstOf B.2.2.2.2.2.2.2.2 B.2.2.2.2.2.2.1 _ _ v1 hq2) cw_X5_116 ⟨Nat.le_of_ble_eq_true rfl, Nat.le_of_ble_eq_true rfl⟩ (by decide) (M_row _) rfl rfl hl.1.symm rfl (Nat.le_of_ble_eq_true rfl) dX5_manyOf_7 ⟨Nat.zero_le _, Nat.zero_le _⟩) h (fun H locs h => ?_)
  refine lv_isub hx hb dX5_manyOf_10 ?_
  obtain rfl := Option.some.inj hf
  exact sE_i B hr h dX5_manyOf_11
set_option maxRecDepth 100000 in
theorem ok_X5_manyOf {l : Launch} (hl0 : l.stackTraces = false) {D : va_G} {cy : Nat → ClassId} {ad : Nat → Nat} (hap : sAp ad) (X : sX) (σ : sM) (v1 : Int32) {r : Int32} (hf : f_X5_manyOf v1 σ = some r) : sMet l yX5_manyOf (sWs yX5_manyOf cX5_manyOf 2 (some .int)) 2 47 0 0 D cy ad X σ [.ref (ad 44), .int v1] (.inr (some (.int r))) X σ := by
  refine sMet_of (by decide +kernel) (Nat.le_of_ble_eq_true rfl) hap hl0 ?_
  intro p e s m args below meth c ls B hr htab hl h
  exact k_X5_manyOf_0 B hr _ _  hf _ _ _ h hl
set_option maxHeartbeats 4000000 in
set_option maxRecDepth 100000 in
theorem k_X5_checksum_33 {p : Program} {l : Launch} {e : Env} {s : State} {m : MethodId} {args : Array Value} {below : List Frame} {meth : Method} {c : Code} {D : va_G} {cy : Nat → ClassId} {ad : Nat → Nat} {X : sX} {r : Int64} {σ' : sM} (B : sB p l s m meth c args cX5_checksum 6 RX5 D cy ad) (hr : meth.sig.returnType = (some .long)) {K11 : Int64 → Int32 → sM → Option (Int64 × sM)} (hK11 : ∀ (v1 : Int64) (v3 : Int32) (σ : sM), K11 v1 v3 σ = some (r, σ') → sGo p l e { frames := 3, cells := 0, slots := 0, locals := 68 } s m args below meth c D cy ad X 6 (sQ below args s 0 0 D cy ad (.inr (some (.long r))) X σ') σ 11 [(0, .ref (ad 44)), (1, .long v1), (3, .int v3)] []) : ∀ (n : Nat) (v1 : Int64) (v3 : Int32) (v4 : Int32) (σ : sM), b_X5_checksum_33 K11 n v1 v3 v4 σ = some (r, σ') → sGo p l e { frames := 3, cells := 0, slots := 0, locals := 68 } s m args below meth c D cy ad X 6 (sQ below args s 0 0 D cy ad (.inr (some (.long r))) X σ') σ 33 [(0, .ref (ad 44)), (1, .long v1), (3, .int v3), (4, .int v4)] [] := by
  intro n
  induction n with
  | zero =>
    intro v1 v3 v4 σ hf
    exact nomatch (show none = some (r, σ') from hf)
  | succ n ih =>
    intro v1 v3 v4 σ hf
    replace hf : (chk (inb v3 3) (if (σ 47 (v3).toNatClampNeg) ≤ v4 then (K11 v1 (v3 + 1) σ) else (chk (inb (((60 : Int32) * v3) + v4) 180) (chk (inb (((60 : Int32) * v3) + v4) 180) (b_X5_checksum_33 K11 n (((31 : Int64) * (((31 : Int64) * v1) + ((σ 45 ((((60 : Int32) * v3) + v4)).toNatClampNeg).toInt64))) + ((σ 46 ((((60 : Int32) * v3) + v4)).toNatClampNeg).toInt64)) v3 (v4 + 1) σ))))) = some (r, σ') := hf
    intro H locs ls h hl
    have hx := B.1
    have hb := B.2.1
    refine lv_iload hx hb dX5_checksum_33 (lv_at hl 3 rfl) ?_
    refine lv_aload_n hx hb dX5_checksum_35 rfl (lv_at hl 0 rfl) ?_
    refine g_get B h 44 (by decide) (C := RX5) (T := TX5) (N := 21) (M_row _) rfl hin_X5 2 (by decide) hw828 rfl rfl dX5_checksum_36 ?_
    refine lv_iload_n hx hb dX5_checksum_39 rfl (lv_at hl 2 rfl) ?_
    obtain ⟨c8, hf⟩ := chk_some hf
    refine g_iald B h 47 (by decide) (n := 3) (fun _ => rfl) (inb_in c8) dX5_checksum_40 ?_
    refine lv_icmp_ge (tgt := 90) hx hb dX5_checksum_41 (by decide) (fun c9 => ?_) (fun c9 => ?_)
    · rw [if_pos c9] at hf
      refine lv_iinc (v := (v3 + 1)) (lv' := [(3, .int (v3 + 1)), (0, .ref (ad 44)), (1, .long v1), (4, .int v4)]) hx hb dX5_checksum_90 hl (k := 2) rfl rfl (by decide) rfl (fun ls hl => ?_)
      refine lv_goto (tgt := 11) hx hb dX5_checksum_93 (by decide) ?_
      exact hK11 _ _ _ hf _ _ _ h (lv_sub hl [1, 2, 0] rfl)
    · rw [if_neg c9] at hf
      refine lv_ldc2 (own := RX5) (v := (31 : Int64)) hx hb B.2.2.2.1 (B.2.2.2.2.1 _ hw1119) dX5_checksum_44 ?_
      refine lv_lload_n hx hb dX5_checksum_47 rfl (lv_at hl 1 rfl) ?_
      refine lv_lmul hx hb dX5_checksum_48 ?_
      refine lv_aload_n hx hb dX5_checksum_49 rfl (lv_at hl 0 rfl) ?_
      refine g_get B h 44 (by decide) (C := RX5) (T := TX5) (N := 21) (M_row _) rfl hin_X5 0 (by decide) hw826 rfl rfl dX5_checksum_50 ?_
      refine lv_bipush (v := (60 : Int32)) hx hb dX5_checksum_53 (by decide) ?_
      refine lv_iload_n hx hb dX5_checksum_55 rfl (lv_at hl 2 rfl) ?_
      refine lv_imul hx hb dX5_checksum_56 ?_
      refine lv_iload hx hb dX5_checksum_57 (lv_at hl 3 rfl) ?_
      refine lv_iadd hx hb dX5_checksum_59 ?_
      obtain ⟨c10, hf⟩ := chk_some hf
      refine g_iald B h 45 (by decide) (n := 180) (fun _ => rfl) (inb_in c10) dX5_checksum_60 ?_
      refine lv_i2l (v := ((σ 45 ((((60 : Int32) * v3) + v4)).toNatClampNeg).toInt64)) hx hb dX5_checksum_61 rfl ?_
      refine lv_ladd hx hb dX5_checksum_62 ?_
      refine lv_lstore_n (lv' := [(1, .long (((31 : Int64) * v1) + ((σ 45 ((((60 : Int32) * v3) + v4)).toNatClampNeg).toInt64))), (0, .ref (ad 44)), (3, .int v3), (4, .int v4)]) hx hb dX5_checksum_63 rfl hl (by decide) rfl (fun ls hl => ?_)
      refine lv_ldc2 (own := RX5) (v := (31 : Int64)) hx hb B.2.2.2.1 (B.2.2.2.2.1 _ hw1119) dX5_checksum_64 ?_
      refine lv_lload_n hx hb dX5_checksum_67 rfl (lv_at hl 0 rfl) ?_
      refine lv_lmul hx hb dX5_checksum_68 ?_
      refine lv_aload_n hx hb dX5_checksum_69 rfl (lv_at hl 1 rfl) ?_
      refine g_get B h 44 (by decide) (C := RX5) (T := TX5) (N := 21) (M_row _) rfl hin_X5 1 (by decide) hw827 rfl rfl dX5_checksum_70 ?_
      refine lv_bipush (v := (60 : Int32)) hx hb dX5_checksum_73 (by decide) ?_
      refine lv_iload_n hx hb dX5_checksum_75 rfl (lv_at hl 2 rfl) ?_
      refine lv_imul hx hb dX5_checksum_76 ?_
      refine lv_iload hx hb dX5_checksum_77 (lv_at hl 3 rfl) ?_
      refine lv_iadd hx hb dX5_checksum_79 ?_
      obtain ⟨c11, hf⟩ := chk_some hf
      refine g_iald B h 46 (by decide) (n := 180) (fun _ => rfl) (inb_in c11) dX5_checksum_80 ?_
      refine lv_i2l (v := ((σ 46 ((((60 : Int32) * v3) + v4)).toNatClampNeg).toInt64)) hx hb dX5_checksum_81 rfl ?_
      refine lv_ladd hx hb dX5_checksum_82 ?_
      refine lv_lstore_n (lv' := [(1, .long (((31 : Int64) * (((31 : Int64) * v1) + ((σ 45 ((((60 : Int32) * v3) + v4)).toNatClampNeg).toInt64))) + ((σ 46 ((((60 : Int32) * v3) + v4)).toNatClampNeg).toInt64))), (0, .ref (ad 44)), (3, .int v3), (4, .int v4)]) hx hb dX5_checksum_83 rfl hl (by decide) rfl (fun ls hl => ?_)
      refine lv_iinc (v := (v4 + 1)) (lv' := [(4, .int (v4 + 1)), (1, .long (((31 : Int64) * (((31 : Int64) * v1) + ((σ 45 ((((60 : Int32) * v3) + v4)).toNatClampNeg).toInt64))) + ((σ 46 ((((60 : Int32) * v3) + v4)).toNatClampNeg).toInt64))), (0, .ref (ad 44)), (3, .int v3)]) hx hb dX5_checksum_84 hl (k := 3) rfl rfl (by decide) rfl (fun ls hl => ?_)
      refine lv_goto (tgt := 33) hx hb dX5_checksum_87 (by decide) ?_
      exact ih _ _ _ _ hf _ _ _ h (lv_sub hl [2, 1, 3, 0] rfl)
set_option maxHeartbeats 4000000 in
set_option maxRecDepth 100000 in
theorem k_X5_checksum_173 {p : Program} {l : Launch} {e : Env} {s : State} {m : MethodId} {args : Array Value} {below : List Frame} {meth : Method} {c : Code} {D : va_G} {cy : Nat → ClassId} {ad : Nat → Nat} {X : sX} {r : Int64} {σ' : sM} (B : sB p l s m meth c args cX5_checksum 6 RX5 D cy ad) (hr : meth.sig.returnType = (some .long)) {K98 : Int64 → Int32 → sM → Option (Int64 × sM)} (hK98 : ∀ (v1 : Int64) (v3 : Int32) (σ : sM), K98 v1 v3 σ = some (r, σ') → sGo p l e { frames := 3, cells := 0, slots := 0, locals := 68 } s m args below meth c D cy ad X 6 (sQ below args s 0 0 D cy ad (.inr (some (.long r))) X σ') σ 98 [(0, .ref (ad 44)), (1, .long v1), (3, .int v3)] []) {K132 : Int64 → Int32 → Int32 → sM → Option (Int64 × sM)} (hK132 : ∀ (v1 : Int64) (v3 : Int32) (v4 : Int32) (σ : sM), K132 v1 v3 v4 σ = some (r, σ') → sGo p l e { frames := 3, cells := 0, slots := 0, locals := 68 } s m args below meth c D cy ad X 6 (sQ below args s 0 0 D cy ad (.inr (some (.long r))) X σ') σ 132 [(0, .ref (ad 44)), (1, .long v1), (3, .int v3), (4, .int v4)] []) (v1 : Int64) (v3 : Int32) (v4 : Int32) (vs0 : Int32) (σ : sM) (hf : b_X5_checksum_173 K98 K132 v1 v3 v4 vs0 σ = some (r, σ')) : sGo p l e { frames := 3, cells := 0, slots := 0, locals := 68 } s m args below meth c D cy ad X 6 (sQ below args s 0 0 D cy ad (.inr (some (.long r))) X σ') σ 173 [(0, .ref (ad 44)), (1, .long v1), (3, .int v3), (4, .int v4)] [.int vs0] := by
  replace hf : (if vs0 = 0 then (K132 v1 v3 (v4 + 1) σ) else (chk (inb v3 4) (chk (inb (((60 : Int32) * (σ 49 (v3).toNatClampNeg)) + v4) 180) (K132 (((31 : Int64) * v1) + ((σ 45 ((((60 : Int32) * (σ 49 (v3).toNatClampNeg)) + v4)).toNatClampNeg).toInt64)) v3 (v4 + 1) σ)))) = some (r, σ') := hf
  intro H locs ls h hl
  have hx := B.1
  have hb := B.2.1
  refine lv_istore (lv' := [(5, .int vs0), (0, .ref (ad 44)), (1, .long v1), (3, .int v3), (4, .int v4)]) hx hb dX5_checksum_173 hl (by decide) rfl (fun ls hl => ?_)
  refine lv_iload hx hb dX5_checksum_175 (lv_at hl 0 rfl) ?_
  refine lv_if_eq (tgt := 207) hx hb dX5_checksum_177 (by decide) (fun c26 => ?_) (fun c26 => ?_)
  · rw [if_pos c26] at hf
    refine lv_lload_n hx hb dX5_checksum_207 rfl (lv_at hl 2 rfl) ?_
    refine lv_lstore_n (lv' := [(1, .long v1), (5, .int vs0), (0, .ref (ad 44)), (3, .int v3), (4, .int v4)]) hx hb dX5_checksum_208 rfl hl (by decide) rfl (fun ls hl => ?_)
    refine lv_iinc (v := (v4 + 1)) (lv' := [(4, .int (v4 + 1)), (1, .long v1), (5, .int vs0), (0, .ref (ad 44)), (3, .int v3)]) hx hb dX5_checksum_209 hl (k := 4) rfl rfl (by decide) rfl (fun ls hl => ?_)
    refine lv_goto (tgt := 132) hx hb dX5_checksum_212 (by decide) ?_
    exact hK132 _ _ _ _ hf _ _ _ h (lv_sub hl [3, 1, 4, 0] rfl)
  · rw [if_neg c26] at hf
    refine lv_ldc2 (own := RX5) (v := (31 : Int64)) hx hb B.2.2.2.1 (B.2.2.2.2.1 _ hw1119) dX5_checksum_180 ?_
    refine lv_lload_n hx hb dX5_checksum_183 rfl (lv_at hl 2 rfl) ?_
    refine lv_lmul hx hb dX5_checksum_184 ?_
    refine lv_aload_n hx hb dX5_checksum_185 rfl (lv_at hl 1 rfl) ?_
    refine g_get B h 44 (by decide) (C := RX5) (T := TX5) (N := 21) (M_row _) rfl hin_X5 0 (by decide) hw826 rfl rfl dX5_checksum_186 ?_
    refine lv_bipush (v := (60 : Int32)) hx hb dX5_checksum_189 (by decide) ?_
    refine lv_aload_n hx hb dX5_checksum_191 rfl (lv_at hl 1 rfl) ?_
    refine g_get B h 44 (by decide) (C := RX5) (T := TX5) (N := 21) (M_row _) rfl hin_X5 4 (by decide) hw830 rfl rfl dX5_checksum_192 ?_
    refine lv_iload_n hx hb dX5_checksum_195 rfl (lv_at hl 3 rfl) ?_
    obtain ⟨c27, hf⟩ := chk_some hf
    refine g_iald B h 49 (by decide) (n := 4) (fun _ => rfl) (inb_in c27) dX5_checksum_196 ?_
    refine lv_imul hx hb dX5_checksum_197 ?_
    refine lv_iload hx hb dX5_checksum_198 (lv_at hl 4 rfl) ?_
    refine lv_iadd hx hb dX5_checksum_200 ?_
    obtain ⟨c28, hf⟩ := chk_some hf
    refine g_iald B h 45 (by decide) (n := 180) (fun _ => rfl) (inb_in c28) dX5_checksum_201 ?_
    refine lv_i2l (v := ((σ 45 ((((60 : Int32) * (σ 49 (v3).toNatClampNeg)) + v4)).toNatClampNeg).toInt64)) hx hb dX5_checksum_202 rfl ?_
    refine lv_ladd hx hb dX5_checksum_203 ?_
    refine lv_goto (tgt := 208) hx hb dX5_checksum_204 (by decide) ?_
    refine lv_lstore_n (lv' := [(1, .long (((31 : Int64) * v1) + ((σ 45 ((((60 : Int32) * (σ 49 (v3).toNatClampNeg)) + v4)).toNatClampNeg).toInt64))), (5, .int vs0), (0, .ref (ad 44)), (3, .int v3), (4, .int v4)]) hx hb dX5_checksum_208 rfl hl (by decide) rfl (fun ls hl => ?_)
    refine lv_iinc (v := (v4 + 1)) (lv' := [(4, .int (v4 + 1)), (1, .long (((31 : Int64) * v1) + ((σ 45 ((((60 : Int32) * (σ 49 (v3).toNatClampNeg)) + v4)).toNatClampNeg).toInt64))), (5, .int vs0), (0, .ref (ad 44)), (3, .int v3)]) hx hb dX5_checksum_209 hl (k := 4) rfl rfl (by decide) rfl (fun ls hl => ?_)
    refine lv_goto (tgt := 132) hx hb dX5_checksum_212 (by decide) ?_
    exact hK132 _ _ _ _ hf _ _ _ h (lv_sub hl [3, 1, 4, 0] rfl)
set_option maxHeartbeats 4000000 in
set_option maxRecDepth 100000 in
theorem k_X5_checksum_132 {p : Program} {l : Launch} {e : Env} {s : State} {m : MethodId} {args : Array Value} {below : List Frame} {meth : Method} {c : Code} {D : va_G} {cy : Nat → ClassId} {ad : Nat → Nat} {X : sX} {r : Int64} {σ' : sM} (B : sB p l s m meth c args cX5_checksum 6 RX5 D cy ad) (hr : meth.sig.returnType = (some .long)) {K98 : Int64 → Int32 → sM → Option (Int64 × sM)} (hK98 : ∀ (v1 : Int64) (v3 : Int32) (σ : sM), K98 v1 v3 σ = some (r, σ') → sGo p l e { frames := 3, cells := 0, slots := 0, locals := 68 } s m args below meth c D cy ad X 6 (sQ below args s 0 0 D cy ad (.inr (some (.long r))) X σ') σ 98 [(0, .ref (ad 44)), (1, .long v1), (3, .int v3)] []) : ∀ (n : Nat) (v1 : Int64) (v3 : Int32) (v4 : Int32) (σ : sM), b_X5_checksum_132 K98 n v1 v3 v4 σ = some (r, σ') → sGo p l e { frames := 3, cells := 0, slots := 0, locals := 68 } s m args below meth c D cy ad X 6 (sQ below args s 0 0 D cy ad (.inr (some (.long r))) X σ') σ 132 [(0, .ref (ad 44)), (1, .long v1), (3, .int v3), (4, .int v4)] [] := by
  intro n
  induction n with
  | zero =>
    intro v1 v3 v4 σ hf
    exact nomatch (show none = some (r, σ') from hf)
  | succ n ih =>
    intro v1 v3 v4 σ hf
    replace hf : (if (60 : Int32) ≤ v4 then (K98 v1 (v3 + 1) σ) else (chk (inb v3 4) (if (σ 48 (v3).toNatClampNeg) = 0 then (b_X5_checksum_173 K98 (b_X5_checksum_132 K98 n) v1 v3 v4 (0 : Int32) σ) else (rthn (f_X5_firstOf v3 σ) (fun vr17 => if v4 < vr17 then (b_X5_checksum_173 K98 (b_X5_checksum_132 K98 n) v1 v3 v4 (0 : Int32) σ) else (rthn (f_X5_behindOf v3 σ) (fun vr19 => if vr19 ≤ v4 then (b_X5_checksum_173 K98 (b_X5_checksum_132 K98 n) v1 v3 v4 (0 : Int32) σ) else (b_X5_checksum_173 K98 (b_X5_checksum_132 K98 n) v1 v3 v4 (1 : Int32) σ)))))))) = some (r, σ') := hf
    intro H locs ls h hl
    have hx := B.1
    have hb := B.2.1
    refine lv_iload hx hb dX5_checksum_132 (lv_at hl 3 rfl) ?_
    refine lv_bipush (v := (60 : Int32)) hx hb dX5_checksum_134 (by decide) ?_
    refine lv_icmp_ge (tgt := 215) hx hb dX5_checksum_136 (by decide) (fun c14 => ?_) (fun c14 => ?_)
    · rw [if_pos c14] at hf
      refine lv_iinc (v := (v3 + 1)) (lv' := [(3, .int (v3 + 1)), (0, .ref (ad 44)), (1, .long v1), (4, .int v4)]) hx hb dX5_checksum_215 hl (k := 2) rfl rfl (by decide) rfl (fun ls hl => ?_)
      refine lv_goto (tgt := 98) hx hb dX5_checksum_218 (by decide) ?_
      exact hK98 _ _ _ hf _ _ _ h (lv_sub hl [1, 2, 0] rfl)
    · rw [if_neg c14] at hf
      refine lv_aload_n hx hb dX5_checksum_139 rfl (lv_at hl 0 rfl) ?_
      refine g_get B h 44 (by decide) (C := RX5) (T := TX5) (N := 21) (M_row _) rfl hin_X5 3 (by decide) hw829 rfl rfl dX5_checksum_140 ?_
      refine lv_iload_n hx hb dX5_checksum_143 rfl (lv_at hl 2 rfl) ?_
      obtain ⟨c15, hf⟩ := chk_some hf
      refine g_zald B h 48 (by decide) (n := 4) (fun _ => rfl) (inb_in c15) dX5_checksum_144 ?_
      refine lv_if_eq (tgt := 172) hx hb dX5_checksum_145 (by decide) (fun c16 => ?_) (fun c16 => ?_)
      · rw [if_pos c16] at hf
        refine lv_iconst (v := (0 : Int32)) hx hb dX5_checksum_172 (by decide) ?_
        exact k_X5_checksum_173 B hr hK98 ih _ _ _ _ _ hf _ _ _ h (lv_sub hl [0, 1, 2, 3] rfl)
      · rw [if_neg c16] at hf
        refine lv_iload hx hb dX5_checksum_148 (lv_at hl 3 rfl) ?_
        refine lv_aload_n hx hb dX5_checksum_150 rfl (lv_at hl 0 rfl) ?_
        refine lv_iload_n hx hb dX5_checksum_151 rfl (lv_at hl 2 rfl) ?_
        obtain ⟨vr17, hq17, hf⟩ := rthn_some hf
        refine sRetC1 (g_runV (k := 44) (T := TX5) (N := 21) B h (ok_X5_firstOf B.2.2.2.2.2.2.2.2 B.2.2.2.2.2.2.1 _ _ v3 hq17) cw_X5_116 ⟨Nat.le_of_ble_eq_true rfl, Nat.le_of_ble_eq_true rfl⟩ (by decide) (M_row _) rfl rfl hl.1.symm rfl (Nat.le_of_ble_eq_true rfl) dX5_checksum_152 ⟨Nat.zero_le _, Nat.zero_le _⟩) h (fun H locs h => ?_)
        refine lv_icmp_lt (tgt := 172) hx hb dX5_checksum_155 (by decide) (fun c18 => ?_) (fun c18 => ?_)
        · rw [if_pos c18] at hf
          refine lv_iconst (v := (0 : Int32)) hx hb dX5_checksum_172 (by decide) ?_
          exact k_X5_checksum_173 B hr hK98 ih _ _ _ _ _ hf _ _ _ h (lv_sub hl [0, 1, 2, 3] rfl)
        · rw [if_neg c18] at hf
          refine lv_iload hx hb dX5_checksum_158 (lv_at hl 3 rfl) ?_
          refine lv_aload_n hx hb dX5_checksum_160 rfl (lv_at hl 0 rfl) ?_
          refine lv_iload_n hx hb dX5_checksum_161 rfl (lv_at hl 2 rfl) ?_
          obtain ⟨vr19, hq19, hf⟩ := rthn_some hf
          refine sRetC1 (g_runV (k := 44) (T := TX5) (N := 21) B h (ok_X5_behindOf B.2.2.2.2.2.2.2.2 B.2.2.2.2.2.2.1 _ _ v3 hq19) cw_X5_123 ⟨Nat.le_of_ble_eq_true rfl, Nat.le_of_ble_eq_true rfl⟩ (by decide) (M_row _) rfl rfl hl.1.symm rfl (Nat.le_of_ble_eq_true rfl) dX5_checksum_162 ⟨Nat.zero_le _, Nat.zero_le _⟩) h (fun H locs h => ?_)
          refine lv_icmp_ge (tgt := 172) hx hb dX5_checksum_165 (by decide) (fun c20 => ?_) (fun c20 => ?_)
          · rw [if_pos c20] at hf
            refine lv_iconst (v := (0 : Int32)) hx hb dX5_checksum_172 (by decide) ?_
            exact k_X5_checksum_173 B hr hK98 ih _ _ _ _ _ hf _ _ _ h (lv_sub hl [0, 1, 2, 3] rfl)
          · rw [if_neg c20] at hf
            refine lv_iconst (v := (1 : Int32)) hx hb dX5_checksum_168 (by decide) ?_
            refine lv_goto (tgt := 173) hx hb dX5_checksum_169 (by decide) ?_
            exact k_X5_checksum_173 B hr hK98 ih _ _ _ _ _ hf _ _ _ h (lv_sub hl [0, 1, 2, 3] rfl)
set_option maxHeartbeats 4000000 in
set_option maxRecDepth 100000 in
theorem k_X5_checksum_245 {p : Program} {l : Launch} {e : Env} {s : State} {m : MethodId} {args : Array Value} {below : List Frame} {meth : Method} {c : Code} {D : va_G} {cy : Nat → ClassId} {ad : Nat → Nat} {X : sX} {r : Int64} {σ' : sM} (B : sB p l s m meth c args cX5_checksum 6 RX5 D cy ad) (hr : meth.sig.returnType = (some .long)) {K223 : Int64 → Int32 → sM → Option (Int64 × sM)} (hK223 : ∀ (v1 : Int64) (v3 : Int32) (σ : sM), K223 v1 v3 σ = some (r, σ') → sGo p l e { frames := 3, cells := 0, slots := 0, locals := 68 } s m args below meth c D cy ad X 6 (sQ below args s 0 0 D cy ad (.inr (some (.long r))) X σ') σ 223 [(0, .ref (ad 44)), (1, .long v1), (3, .int v3)] []) : ∀ (n : Nat) (v1 : Int64) (v3 : Int32) (v4 : Int32) (σ : sM), b_X5_checksum_245 K223 n v1 v3 v4 σ = some (r, σ') → sGo p l e { frames := 3, cells := 0, slots := 0, locals := 68 } s m args below meth c D cy ad X 6 (sQ below args s 0 0 D cy ad (.inr (some (.long r))) X σ') σ 245 [(0, .ref (ad 44)), (1, .long v1), (3, .int v3), (4, .int v4)] [] := by
  intro n
  induction n with
  | zero =>
    intro v1 v3 v4 σ hf
    exact nomatch (show none = some (r, σ') from hf)
  | succ n ih =>
    intro v1 v3 v4 σ hf
    replace hf : (chk (inb v3 3) (if (σ 58 (v3).toNatClampNeg) ≤ v4 then (K223 v1 (v3 + 1) σ) else (chk (inb (((30 : Int32) * v3) + v4) 90) (chk (inb (((30 : Int32) * v3) + v4) 90) (chk (inb (((30 : Int32) * v3) + v4) 90) (b_X5_checksum_245 K223 n (((31 : Int64) * (((31 : Int64) * (((31 : Int64) * v1) + ((σ 55 ((((30 : Int32) * v3) + v4)).toNatClampNeg).toInt64))) + ((σ 56 ((((30 : Int32) * v3) + v4)).toNatClampNeg).toInt64))) + ((σ 57 ((((30 : Int32) * v3) + v4)).toNatClampNeg).toInt64)) v3 (v4 + 1) σ)))))) = some (r, σ') := hf
    intro H locs ls h hl
    have hx := B.1
    have hb := B.2.1
    refine lv_iload hx hb dX5_checksum_245 (lv_at hl 3 rfl) ?_
    refine lv_aload_n hx hb dX5_checksum_247 rfl (lv_at hl 0 rfl) ?_
    refine g_get B h 44 (by decide) (C := RX5) (T := TX5) (N := 21) (M_row _) rfl hin_X5 13 (by decide) hw839 rfl rfl dX5_checksum_248 ?_
    refine lv_iload_n hx hb dX5_checksum_251 rfl (lv_at hl 2 rfl) ?_
    obtain ⟨c21, hf⟩ := chk_some hf
    refine g_iald B h 58 (by decide) (n := 3) (fun _ => rfl) (inb_in c21) dX5_checksum_252 ?_
    refine lv_icmp_ge (tgt := 322) hx hb dX5_checksum_253 (by decide) (fun c22 => ?_) (fun c22 => ?_)
    · rw [if_pos c22] at hf
      refine lv_iinc (v := (v3 + 1)) (lv' := [(3, .int (v3 + 1)), (0, .ref (ad 44)), (1, .long v1), (4, .int v4)]) hx hb dX5_checksum_322 hl (k := 2) rfl rfl (by decide) rfl (fun ls hl => ?_)
      refine lv_goto (tgt := 223) hx hb dX5_checksum_325 (by decide) ?_
      exact hK223 _ _ _ hf _ _ _ h (lv_sub hl [1, 2, 0] rfl)
    · rw [if_neg c22] at hf
      refine lv_ldc2 (own := RX5) (v := (31 : Int64)) hx hb B.2.2.2.1 (B.2.2.2.2.1 _ hw1119) dX5_checksum_256 ?_
      refine lv_lload_n hx hb dX5_checksum_259 rfl (lv_at hl 1 rfl) ?_
      refine lv_lmul hx hb dX5_checksum_260 ?_
      refine lv_aload_n hx hb dX5_checksum_261 rfl (lv_at hl 0 rfl) ?_
      refine g_get B h 44 (by decide) (C := RX5) (T := TX5) (N := 21) (M_row _) rfl hin_X5 10 (by decide) hw836 rfl rfl dX5_checksum_262 ?_
      refine lv_bipush (v := (30 : Int32)) hx hb dX5_checksum_265 (by decide) ?_
      refine lv_iload_n hx hb dX5_checksum_267 rfl (lv_at hl 2 rfl) ?_
      refine lv_imul hx hb dX5_checksum_268 ?_
      refine lv_iload hx hb dX5_checksum_269 (lv_at hl 3 rfl) ?_
      refine lv_iadd hx hb dX5_checksum_271 ?_
      obtain ⟨c23, hf⟩ := chk_some hf
      refine g_cald B h 55 (by decide) (n := 90) (fun _ => rfl) (inb_in c23) dX5_checksum_272 ?_
      refine lv_i2l (v := ((σ 55 ((((30 : Int32) * v3) + v4)).toNatClampNeg).toInt64)) hx hb dX5_checksum_273 rfl ?_
      refine lv_ladd hx hb dX5_checksum_274 ?_
      refine lv_lstore_n (lv' := [(1, .long (((31 : Int64) * v1) + ((σ 55 ((((30 : Int32) * v3) + v4)).toNatClampNeg).toInt64))), (0, .ref (ad 44)), (3, .int v3), (4, .int v4)]) hx hb dX5_checksum_275 rfl hl (by decide) rfl (fun ls hl => ?_)
      refine lv_ldc2 (own := RX5) (v := (31 : Int64)) hx hb B.2.2.2.1 (B.2.2.2.2.1 _ hw1119) dX5_checksum_276 ?_
      refine lv_lload_n hx hb dX5_checksum_279 rfl (lv_at hl 0 rfl) ?_
      refine lv_lmul hx hb dX5_checksum_280 ?_
      refine lv_aload_n hx hb dX5_checksum_281 rfl (lv_at hl 1 rfl) ?_
      refine g_get B h 44 (by decide) (C := RX5) (T := TX5) (N := 21) (M_row _) rfl hin_X5 11 (by decide) hw837 rfl rfl dX5_checksum_282 ?_
      refine lv_bipush (v := (30 : Int32)) hx hb dX5_checksum_285 (by decide) ?_
      refine lv_iload_n hx hb dX5_checksum_287 rfl (lv_at hl 2 rfl) ?_
      refine lv_imul hx hb dX5_checksum_288 ?_
      refine lv_iload hx hb dX5_checksum_289 (lv_at hl 3 rfl) ?_
      refine lv_iadd hx hb dX5_checksum_291 ?_
      obtain ⟨c24, hf⟩ := chk_some hf
      refine g_iald B h 56 (by decide) (n := 90) (fun _ => rfl) (inb_in c24) dX5_checksum_292 ?_
      refine lv_i2l (v := ((σ 56 ((((30 : Int32) * v3) + v4)).toNatClampNeg).toInt64)) hx hb dX5_checksum_293 rfl ?_
      refine lv_ladd hx hb dX5_checksum_294 ?_
      refine lv_lstore_n (lv' := [(1, .long (((31 : Int64) * (((31 : Int64) * v1) + ((σ 55 ((((30 : Int32) * v3) + v4)).toNatClampNeg).toInt64))) + ((σ 56 ((((30 : Int32) * v3) + v4)).toNatClampNeg).toInt64))), (0, .ref (ad 44)), (3, .int v3), (4, .int v4)]) hx hb dX5_checksum_295 rfl hl (by decide) rfl (fun ls hl => ?_)
      refine lv_ldc2 (own := RX5) (v := (31 : Int64)) hx hb B.2.2.2.1 (B.2.2.2.2.1 _ hw1119) dX5_checksum_296 ?_
      refine lv_lload_n hx hb dX5_checksum_299 rfl (lv_at hl 0 rfl) ?_
      refine lv_lmul hx hb dX5_checksum_300 ?_
      refine lv_aload_n hx hb dX5_checksum_301 rfl (lv_at hl 1 rfl) ?_
      refine g_get B h 44 (by decide) (C := RX5) (T := TX5) (N := 21) (M_row _) rfl hin_X5 12 (by decide) hw838 rfl rfl dX5_checksum_302 ?_
      refine lv_bipush (v := (30 : Int32)) hx hb dX5_checksum_305 (by decide) ?_
      refine lv_iload_n hx hb dX5_checksum_307 rfl (lv_at hl 2 rfl) ?_
      refine lv_imul hx hb dX5_checksum_308 ?_
      refine lv_iload hx hb dX5_checksum_309 (lv_at hl 3 rfl) ?_
      refine lv_iadd hx hb dX5_checksum_311 ?_
      obtain ⟨c25, hf⟩ := chk_some hf
      refine g_iald B h 57 (by decide) (n := 90) (fun _ => rfl) (inb_in c25) dX5_checksum_312 ?_
      refine lv_i2l (v := ((σ 57 ((((30 : Int32) * v3) + v4)).toNatClampNeg).toInt64)) hx hb dX5_checksum_313 rfl ?_
      refine lv_ladd hx hb dX5_checksum_314 ?_
      refine lv_lstore_n (lv' := [(1, .long (((31 : Int64) * (((31 : Int64) * (((31 : Int64) * v1) + ((σ 55 ((((30 : Int32) * v3) + v4)).toNatClampNeg).toInt64))) + ((σ 56 ((((30 : Int32) * v3) + v4)).toNatClampNeg).toInt64))) + ((σ 57 ((((30 : Int32) * v3) + v4)).toNatClampNeg).toInt64))), (0, .ref (ad 44)), (3, .int v3), (4, .int v4)]) hx hb dX5_checksum_315 rfl hl (by decide) rfl (fun ls hl => ?_)
      refine lv_iinc (v := (v4 + 1)) (lv' := [(4, .int (v4 + 1)), (1, .long (((31 : Int64) * (((31 : Int64) * (((31 : Int64) * v1) + ((σ 55 ((((30 : Int32) * v3) + v4)).toNatClampNeg).toInt64))) + ((σ 56 ((((30 : Int32) * v3) + v4)).toNatClampNeg).toInt64))) + ((σ 57 ((((30 : Int32) * v3) + v4)).toNatClampNeg).toInt64))), (0, .ref (ad 44)), (3, .int v3)]) hx hb dX5_checksum_316 hl (k := 3) rfl rfl (by decide) rfl (fun ls hl => ?_)
      refine lv_goto (tgt := 245) hx hb dX5_checksum_319 (by decide) ?_
      exact ih _ _ _ _ hf _ _ _ h (lv_sub hl [2, 1, 3, 0] rfl)
set_option maxHeartbeats 4000000 in
set_option maxRecDepth 100000 in
theorem k_X5_checksum_223 {p : Program} {l : Launch} {e : Env} {s : State} {m : MethodId} {args : Array Value} {below : List Frame} {meth : Method} {c : Code} {D : va_G} {cy : Nat → ClassId} {ad : Nat → Nat} {X : sX} {r : Int64} {σ' : sM} (B : sB p l s m meth c args cX5_checksum 6 RX5 D cy ad) (hr : meth.sig.returnType = (some .long)) : ∀ (n : Nat) (v1 : Int64) (v3 : Int32) (σ : sM), b_X5_checksum_223 n v1 v3 σ = some (r, σ') → sGo p l e { frames := 3, cells := 0, slots := 0, locals := 68 } s m args below meth c D cy ad X 6 (sQ below args s 0 0 D cy ad (.inr (some (.long r))) X σ') σ 223 [(0, .ref (ad 44)), (1, .long v1), (3, .int v3)] [] := by
  intro n
  induction n with
  | zero =>
    intro v1 v3 σ hf
    exact nomatch (show none = some (r, σ') from hf)
  | succ n ih =>
    intro v1 v3 σ hf
    replace hf : (if (3 : Int32) ≤ v3 then (some (v1, σ)) else (chk (inb v3 3) (b_X5_checksum_245 (b_X5_checksum_223 n) FU (((31 : Int64) * v1) + ((σ 58 (v3).toNatClampNeg).toInt64)) v3 (0 : Int32) σ))) = some (r, σ') := hf
    intro H locs ls h hl
    have hx := B.1
    have hb := B.2.1
    refine lv_iload_n hx hb dX5_checksum_223 rfl (lv_at hl 2 rfl) ?_
    refine lv_iconst (v := (3 : Int32)) hx hb dX5_checksum_224 (by decide) ?_
    refine lv_icmp_ge (tgt := 328) hx hb dX5_checksum_225 (by decide) (fun c12 => ?_) (fun c12 => ?_)
    · rw [if_pos c12] at hf
      refine lv_lload_n hx hb dX5_checksum_328 rfl (lv_at hl 1 rfl) ?_
      obtain ⟨rfl, rfl⟩ := Prod.mk.inj (Option.some.inj hf)
      exact sE_l B hr h dX5_checksum_329
    · rw [if_neg c12] at hf
      refine lv_ldc2 (own := RX5) (v := (31 : Int64)) hx hb B.2.2.2.1 (B.2.2.2.2.1 _ hw1119) dX5_checksum_228 ?_
      refine lv_lload_n hx hb dX5_checksum_231 rfl (lv_at hl 1 rfl) ?_
      refine lv_lmul hx hb dX5_checksum_232 ?_
      refine lv_aload_n hx hb dX5_checksum_233 rfl (lv_at hl 0 rfl) ?_
      refine g_get B h 44 (by decide) (C := RX5) (T := TX5) (N := 21) (M_row _) rfl hin_X5 13 (by decide) hw839 rfl rfl dX5_checksum_234 ?_
      refine lv_iload_n hx hb dX5_checksum_237 rfl (lv_at hl 2 rfl) ?_
      obtain ⟨c13, hf⟩ := chk_some hf
      refine g_iald B h 58 (by decide) (n := 3) (fun _ => rfl) (inb_in c13) dX5_checksum_238 ?_
      refine lv_i2l (v := ((σ 58 (v3).toNatClampNeg).toInt64)) hx hb dX5_checksum_239 rfl ?_
      refine lv_ladd hx hb dX5_checksum_240 ?_
      refine lv_lstore_n (lv' := [(1, .long (((31 : Int64) * v1) + ((σ 58 (v3).toNatClampNeg).toInt64))), (0, .ref (ad 44)), (3, .int v3)]) hx hb dX5_checksum_241 rfl hl (by decide) rfl (fun ls hl => ?_)
      refine lv_iconst (v := (0 : Int32)) hx hb dX5_checksum_242 (by decide) ?_
      refine lv_istore (lv' := [(4, .int (0 : Int32)), (1, .long (((31 : Int64) * v1) + ((σ 58 (v3).toNatClampNeg).toInt64))), (0, .ref (ad 44)), (3, .int v3)]) hx hb dX5_checksum_243 hl (by decide) rfl (fun ls hl => ?_)
      exact k_X5_checksum_245 B hr ih _ _ _ _ _ hf _ _ _ h (lv_sub hl [2, 1, 3, 0] rfl)
set_option maxHeartbeats 4000000 in
set_option maxRecDepth 100000 in
theorem k_X5_checksum_98 {p : Program} {l : Launch} {e : Env} {s : State} {m : MethodId} {args : Array Value} {below : List Frame} {meth : Method} {c : Code} {D : va_G} {cy : Nat → ClassId} {ad : Nat → Nat} {X : sX} {r : Int64} {σ' : sM} (B : sB p l s m meth c args cX5_checksum 6 RX5 D cy ad) (hr : meth.sig.returnType = (some .long)) : ∀ (n : Nat) (v1 : Int64) (v3 : Int32) (σ : sM), b_X5_checksum_98 n v1 v3 σ = some (r, σ') → sGo p l e { frames := 3, cells := 0, slots := 0, locals := 68 } s m args below meth c D cy ad X 6 (sQ below args s 0 0 D cy ad (.inr (some (.long r))) X σ') σ 98 [(0, .ref (ad 44)), (1, .long v1), (3, .int v3)] [] := by
  intro n
  induction n with
  | zero =>
    intro v1 v3 σ hf
    exact nomatch (show none = some (r, σ') from hf)
  | succ n ih =>
    intro v1 v3 σ hf
    replace hf : (if (4 : Int32) ≤ v3 then (b_X5_checksum_223 FU v1 (0 : Int32) σ) else (chk (inb v3 4) (if (σ 48 (v3).toNatClampNeg) = 0 then (b_X5_checksum_132 (b_X5_checksum_98 n) FU (((31 : Int64) * v1) + ((-1 : Int32).toInt64)) v3 (0 : Int32) σ) else (rthn (f_X5_manyOf v3 σ) (fun vr7 => b_X5_checksum_132 (b_X5_checksum_98 n) FU (((31 : Int64) * v1) + (vr7.toInt64)) v3 (0 : Int32) σ))))) = some (r, σ') := hf
    intro H locs ls h hl
    have hx := B.1
    have hb := B.2.1
    refine lv_iload_n hx hb dX5_checksum_98 rfl (lv_at hl 2 rfl) ?_
    refine lv_iconst (v := (4 : Int32)) hx hb dX5_checksum_99 (by decide) ?_
    refine lv_icmp_ge (tgt := 221) hx hb dX5_checksum_100 (by decide) (fun c4 => ?_) (fun c4 => ?_)
    · rw [if_pos c4] at hf
      refine lv_iconst (v := (0 : Int32)) hx hb dX5_checksum_221 (by decide) ?_
      refine lv_istore_n (lv' := [(3, .int (0 : Int32)), (0, .ref (ad 44)), (1, .long v1)]) hx hb dX5_checksum_222 rfl hl (by decide) rfl (fun ls hl => ?_)
      exact k_X5_checksum_223 B hr  _ _ _ _ hf _ _ _ h (lv_sub hl [1, 2, 0] rfl)
    · rw [if_neg c4] at hf
      refine lv_ldc2 (own := RX5) (v := (31 : Int64)) hx hb B.2.2.2.1 (B.2.2.2.2.1 _ hw1119) dX5_checksum_103 ?_
      refine lv_lload_n hx hb dX5_checksum_106 rfl (lv_at hl 1 rfl) ?_
      refine lv_lmul hx hb dX5_checksum_107 ?_
      refine lv_aload_n hx hb dX5_checksum_108 rfl (lv_at hl 0 rfl) ?_
      refine g_get B h 44 (by decide) (C := RX5) (T := TX5) (N := 21) (M_row _) rfl hin_X5 3 (by decide) hw829 rfl rfl dX5_checksum_109 ?_
      refine lv_iload_n hx hb dX5_checksum_112 rfl (lv_at hl 2 rfl) ?_
      obtain ⟨c5, hf⟩ := chk_some hf
      refine g_zald B h 48 (by decide) (n := 4) (fun _ => rfl) (inb_in c5) dX5_checksum_113 ?_
      refine lv_if_eq (tgt := 125) hx hb dX5_checksum_114 (by decide) (fun c6 => ?_) (fun c6 => ?_)
      · rw [if_pos c6] at hf
        refine lv_iconst (v := (-1 : Int32)) hx hb dX5_checksum_125 (by decide) ?_
        refine lv_i2l (v := ((-1 : Int32).toInt64)) hx hb dX5_checksum_126 rfl ?_
        refine lv_ladd hx hb dX5_checksum_127 ?_
        refine lv_lstore_n (lv' := [(1, .long (((31 : Int64) * v1) + ((-1 : Int32).toInt64))), (0, .ref (ad 44)), (3, .int v3)]) hx hb dX5_checksum_128 rfl hl (by decide) rfl (fun ls hl => ?_)
        refine lv_iconst (v := (0 : Int32)) hx hb dX5_checksum_129 (by decide) ?_
        refine lv_istore (lv' := [(4, .int (0 : Int32)), (1, .long (((31 : Int64) * v1) + ((-1 : Int32).toInt64))), (0, .ref (ad 44)), (3, .int v3)]) hx hb dX5_checksum_130 hl (by decide) rfl (fun ls hl => ?_)
        exact k_X5_checksum_132 B hr ih _ _ _ _ _ hf _ _ _ h (lv_sub hl [2, 1, 3, 0] rfl)
      · rw [if_neg c6] at hf
        refine lv_aload_n hx hb dX5_checksum_117 rfl (lv_at hl 0 rfl) ?_
        refine lv_iload_n hx hb dX5_checksum_118 rfl (lv_at hl 2 rfl) ?_
        obtain ⟨vr7, hq7, hf⟩ := rthn_some hf
        refine sRetC1 (g_runV (k := 44) (T := TX5) (N := 21) B h (ok_X5_manyOf B.2.2.2.2.2.2.2.2 B.2.2.2.2.2.2.1 _ _ v3 hq7) cw_X5_129 ⟨Nat.le_of_ble_eq_true rfl, Nat.le_of_ble_eq_true rfl⟩ (by decide) (M_row _) rfl rfl hl.1.symm rfl (Nat.le_of_ble_eq_true rfl) dX5_checksum_119 ⟨Nat.zero_le _, Nat.zero_le _⟩) h (fun H locs h => ?_)
        refine lv_goto (tgt := 126) hx hb dX5_checksum_122 (by decide) ?_
        refine lv_i2l (v := (vr7.toInt64)) hx hb dX5_checksum_126 rfl ?_
        refine lv_ladd hx hb dX5_checksum_127 ?_
        refine lv_lstore_n (lv' := [(1, .long (((31 : Int64) * v1) + (vr7.toInt64))), (0, .ref (ad 44)), (3, .int v3)]) hx hb dX5_checksum_128 rfl hl (by decide) rfl (fun ls hl => ?_)
        refine lv_iconst (v := (0 : Int32)) hx hb dX5_checksum_129 (by decide) ?_
        refine lv_istore (lv' := [(4, .int (0 : Int32)), (1, .long (((31 : Int64) * v1) + (vr7.toInt64))), (0, .ref (ad 44)), (3, .int v3)]) hx hb dX5_checksum_130 hl (by decide) rfl (fun ls hl => ?_)
        exact k_X5_checksum_132 B hr ih _ _ _ _ _ hf _ _ _ h (lv_sub hl [2, 1, 3, 0] rfl)
set_option maxHeartbeats 4000000 in
set_option maxRecDepth 100000 in
theorem k_X5_checksum_11 {p : Program} {l : Launch} {e : Env} {s : State} {m : MethodId} {args : Array Value} {below : List Frame} {meth : Method} {c : Code} {D : va_G} {cy : Nat → ClassId} {ad : Nat → Nat} {X : sX} {r : Int64} {σ' : sM} (B : sB p l s m meth c args cX5_checksum 6 RX5 D cy ad) (hr : meth.sig.returnType = (some .long)) : ∀ (n : Nat) (v1 : Int64) (v3 : Int32) (σ : sM), b_X5_checksum_11 n v1 v3 σ = some (r, σ') → sGo p l e { frames := 3, cells := 0, slots := 0, locals := 68 } s m args below meth c D cy ad X 6 (sQ below args s 0 0 D cy ad (.inr (some (.long r))) X σ') σ 11 [(0, .ref (ad 44)), (1, .long v1), (3, .int v3)] [] := by
  intro n
  induction n with
  | zero =>
    intro v1 v3 σ hf
    exact nomatch (show none = some (r, σ') from hf)
  | succ n ih =>
    intro v1 v3 σ hf
    replace hf : (if (3 : Int32) ≤ v3 then (b_X5_checksum_98 FU v1 (0 : Int32) σ) else (chk (inb v3 3) (b_X5_checksum_33 (b_X5_checksum_11 n) FU (((31 : Int64) * v1) + ((σ 47 (v3).toNatClampNeg).toInt64)) v3 (0 : Int32) σ))) = some (r, σ') := hf
    intro H locs ls h hl
    have hx := B.1
    have hb := B.2.1
    refine lv_iload_n hx hb dX5_checksum_11 rfl (lv_at hl 2 rfl) ?_
    refine lv_iconst (v := (3 : Int32)) hx hb dX5_checksum_12 (by decide) ?_
    refine lv_icmp_ge (tgt := 96) hx hb dX5_checksum_13 (by decide) (fun c2 => ?_) (fun c2 => ?_)
    · rw [if_pos c2] at hf
      refine lv_iconst (v := (0 : Int32)) hx hb dX5_checksum_96 (by decide) ?_
      refine lv_istore_n (lv' := [(3, .int (0 : Int32)), (0, .ref (ad 44)), (1, .long v1)]) hx hb dX5_checksum_97 rfl hl (by decide) rfl (fun ls hl => ?_)
      exact k_X5_checksum_98 B hr  _ _ _ _ hf _ _ _ h (lv_sub hl [1, 2, 0] rfl)
    · rw [if_neg c2] at hf
      refine lv_ldc2 (own := RX5) (v := (31 : Int64)) hx hb B.2.2.2.1 (B.2.2.2.2.1 _ hw1119) dX5_checksum_16 ?_
      refine lv_lload_n hx hb dX5_checksum_19 rfl (lv_at hl 1 rfl) ?_
      refine lv_lmul hx hb dX5_checksum_20 ?_
      refine lv_aload_n hx hb dX5_checksum_21 rfl (lv_at hl 0 rfl) ?_
      refine g_get B h 44 (by decide) (C := RX5) (T := TX5) (N := 21) (M_row _) rfl hin_X5 2 (by decide) hw828 rfl rfl dX5_checksum_22 ?_
      refine lv_iload_n hx hb dX5_checksum_25 rfl (lv_at hl 2 rfl) ?_
      obtain ⟨c3, hf⟩ := chk_some hf
      refine g_iald B h 47 (by decide) (n := 3) (fun _ => rfl) (inb_in c3) dX5_checksum_26 ?_
      refine lv_i2l (v := ((σ 47 (v3).toNatClampNeg).toInt64)) hx hb dX5_checksum_27 rfl ?_
      refine lv_ladd hx hb dX5_checksum_28 ?_
      refine lv_lstore_n (lv' := [(1, .long (((31 : Int64) * v1) + ((σ 47 (v3).toNatClampNeg).toInt64))), (0, .ref (ad 44)), (3, .int v3)]) hx hb dX5_checksum_29 rfl hl (by decide) rfl (fun ls hl => ?_)
      refine lv_iconst (v := (0 : Int32)) hx hb dX5_checksum_30 (by decide) ?_
      refine lv_istore (lv' := [(4, .int (0 : Int32)), (1, .long (((31 : Int64) * v1) + ((σ 47 (v3).toNatClampNeg).toInt64))), (0, .ref (ad 44)), (3, .int v3)]) hx hb dX5_checksum_31 hl (by decide) rfl (fun ls hl => ?_)
      exact k_X5_checksum_33 B hr ih _ _ _ _ _ hf _ _ _ h (lv_sub hl [2, 1, 3, 0] rfl)
set_option maxHeartbeats 4000000 in
set_option maxRecDepth 100000 in
theorem k_X5_checksum_0 {p : Program} {l : Launch} {e : Env} {s : State} {m : MethodId} {args : Array Value} {below : List Frame} {meth : Method} {c : Code} {D : va_G} {cy : Nat → ClassId} {ad : Nat → Nat} {X : sX} {r : Int64} {σ' : sM} (B : sB p l s m meth c args cX5_checksum 6 RX5 D cy ad) (hr : meth.sig.returnType = (some .long)) (σ : sM) (hf : f_X5_checksum σ = some (r, σ')) : sGo p l e { frames := 3, cells := 0, slots := 0, locals := 68 } s m args below meth c D cy ad X 6 (sQ below args s 0 0 D cy ad (.inr (some (.long r))) X σ') σ 0 [(0, .ref (ad 44))] [] := by
  replace hf : (stl (va_up σ 44 (upd (σ 44) 20 (0 : Int32))) (fun σ1 => b_X5_checksum_11 FU (7 : Int64) (0 : Int32) σ1)) = some (r, σ') := hf
  intro H locs ls h hl
  have hx := B.1
  have hb := B.2.1
  refine lv_aload_n hx hb dX5_checksum_0 rfl (lv_at hl 0 rfl) ?_
  refine lv_iconst (v := (0 : Int32)) hx hb dX5_checksum_1 (by decide) ?_
  refine g_put B h 44 (by decide) (C := RX5) (T := TX5) (N := 21) (M_row _) rfl hin_X5 tyX5 tyX5_ok nmX5 20 (by decide) hw846 rfl rfl rfl rfl (upd (σ 44) 20 (0 : Int32)) (M_put20 _ _) (Nat.le_of_ble_eq_true rfl) dX5_checksum_2 (fun H locs h => ?_)
  obtain ⟨σ1, e1, hf⟩ := stl_some hf
  rw [← e1] at h
  refine lv_ldc2 (own := RX5) (v := (7 : Int64)) hx hb B.2.2.2.1 (B.2.2.2.2.1 _ hw1118) dX5_checksum_5 ?_
  refine lv_lstore_n (lv' := [(1, .long (7 : Int64)), (0, .ref (ad 44))]) hx hb dX5_checksum_8 rfl hl (by decide) rfl (fun ls hl => ?_)
  refine lv_iconst (v := (0 : Int32)) hx hb dX5_checksum_9 (by decide) ?_
  refine lv_istore_n (lv' := [(3, .int (0 : Int32)), (1, .long (7 : Int64)), (0, .ref (ad 44))]) hx hb dX5_checksum_10 rfl hl (by decide) rfl (fun ls hl => ?_)
  exact k_X5_checksum_11 B hr  _ _ _ _ hf _ _ _ h (lv_sub hl [2, 1, 0] rfl)
set_option maxRecDepth 100000 in
theorem ok_X5_checksum {l : Launch} (hl0 : l.stackTraces = false) {D : va_G} {cy : Nat → ClassId} {ad : Nat → Nat} (hap : sAp ad) (X : sX) (σ : sM) {r : Int64} {σ' : sM} (hf : f_X5_checksum σ = some (r, σ')) : sMet l yX5_checksum (sWs yX5_checksum cX5_checksum 6 (some .long)) 3 68 0 0 D cy ad X σ [.ref (ad 44)] (.inr (some (.long r))) X σ' := by
  refine sMet_of (by decide +kernel) (Nat.le_of_ble_eq_true rfl) hap hl0 ?_
  intro p e s m args below meth c ls B hr htab hl h
  exact k_X5_checksum_0 B hr  _  hf _ _ _ h hl
