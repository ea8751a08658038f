set_option maxHeartbeats 4000000 in
set_option maxRecDepth 100000 in
theorem k_X1_addKeysTo_2 {p : Program} {l : Launch} {e : Env} {s : State} {m : MethodId} {args : Array Value} {below : List Frame} {meth : Method} {c : Code} {D : va_G} {cy : Nat → ClassId} {ad : Nat → Nat} {X : sX} {r : Unit} {σ' : sM} (B : sB p l s m meth c args cX1_addKeysTo 3 RX1 D cy ad) (hr : meth.sig.returnType = none) : ∀ (n : Nat) (t0 : Nat) (t1 : Nat) (v2 : Int32) (σ : sM) (ft0 : isH t0) (ft1 : isT t1), b_X1_addKeysTo_2 n t0 t1 v2 σ = some (r, σ') → sGo p l e { frames := 2, cells := 0, slots := 0, locals := 132 } s m args below meth c D cy ad X 3 (sQ below args s 0 0 D cy ad (.inr none) X σ') σ 2 [(0, .ref (ad t0)), (1, .ref (ad t1)), (2, .int v2)] [] := by
  intro n
  induction n with
  | zero =>
    intro t0 t1 v2 σ ft0 ft1 hf
    exact nomatch (show none = some (r, σ') from hf)
  | succ n ih =>
    intro t0 t1 v2 σ ft0 ft1 hf
    replace hf : (if (σ t0 0) ≤ v2 then (some ((), σ)) else (chk (inb v2 30) (wthn (f_X2_set t1 (σ (t0 + 2) (v2).toNatClampNeg) (0 : Int32) σ) (fun vr3 σ3 => b_X1_addKeysTo_2 n t0 t1 (v2 + 1) σ3)))) = some (r, σ') := hf
    intro H locs ls h hl
    have hx := B.1
    have hb := B.2.1
    refine lv_iload_n hx hb dX1_addKeysTo_2 rfl (lv_at hl 2 rfl) ?_
    refine lv_aload_n hx hb dX1_addKeysTo_3 rfl (lv_at hl 0 rfl) ?_
    refine g_get B h t0 (H_lt ft0) (C := RX1) (T := TX1) (N := 4) (H_row ft0 _) rfl hin_X1 0 (by decide) hw70 rfl rfl dX1_addKeysTo_4 ?_
    refine lv_icmp_ge (tgt := 28) hx hb dX1_addKeysTo_7 (by decide) (fun c1 => ?_) (fun c1 => ?_)
    · rw [if_pos c1] at hf
      obtain ⟨rfl, rfl⟩ := Prod.mk.inj (Option.some.inj hf)
      exact sE_v B hr h dX1_addKeysTo_28
    · rw [if_neg c1] at hf
      refine lv_aload_n hx hb dX1_addKeysTo_10 rfl (lv_at hl 1 rfl) ?_
      refine lv_aload_n hx hb dX1_addKeysTo_11 rfl (lv_at hl 0 rfl) ?_
      refine g_get B h t0 (H_lt ft0) (C := RX1) (T := TX1) (N := 4) (H_row ft0 _) rfl hin_X1 2 (by decide) hw74 rfl rfl dX1_addKeysTo_12 ?_
      refine lv_iload_n hx hb dX1_addKeysTo_15 rfl (lv_at hl 2 rfl) ?_
      obtain ⟨c2, hf⟩ := chk_some hf
      refine g_iald B h (t0 + 2) (H_lt2 ft0) (n := 30) (H_keys ft0) (inb_in c2) dX1_addKeysTo_16 ?_
      refine lv_iconst (v := (0 : Int32)) hx hb dX1_addKeysTo_17 (by decide) ?_
      obtain ⟨vr3, σ3, hq3, hf⟩ := wthn_some hf
      refine sRetC1 (g_runV (k := t1) (T := TX2) (N := 3) B h (ok_X2_set B.2.2.2.2.2.2.2.2 B.2.2.2.2.2.2.1 _ _ ft1 (σ (t0 + 2) (v2).toNatClampNeg) (0 : Int32) hq3) cw_X1_32 ⟨Nat.le_of_ble_eq_true rfl, Nat.le_of_ble_eq_true rfl⟩ (T_lt ft1) (T_row ft1 _) rfl rfl hl.1.symm rfl (Nat.le_of_ble_eq_true rfl) dX1_addKeysTo_18 ⟨Nat.zero_le _, Nat.zero_le _⟩) h (fun H locs h => ?_)
      refine lv_pop hx hb dX1_addKeysTo_21 rfl ?_
      refine lv_iinc (v := (v2 + 1)) (lv' := [(2, .int (v2 + 1)), (0, .ref (ad t0)), (1, .ref (ad t1))]) hx hb dX1_addKeysTo_22 hl (k := 2) rfl rfl (by decide) rfl (fun ls hl => ?_)
      refine lv_goto (tgt := 2) hx hb dX1_addKeysTo_25 (by decide) ?_
      exact ih _ _ _ _ ft0 ft1 hf _ _ _ h (lv_sub hl [1, 2, 0] rfl)
set_option maxHeartbeats 4000000 in
set_option maxRecDepth 100000 in
theorem k_X1_addKeysTo_0 {p : Program} {l : Launch} {e : Env} {s : State} {m : MethodId} {args : Array Value} {below : List Frame} {meth : Method} {c : Code} {D : va_G} {cy : Nat → ClassId} {ad : Nat → Nat} {X : sX} {r : Unit} {σ' : sM} (B : sB p l s m meth c args cX1_addKeysTo 3 RX1 D cy ad) (hr : meth.sig.returnType = none) (t0 : Nat) (t1 : Nat) (σ : sM) (ft0 : isH t0) (ft1 : isT t1) (hf : f_X1_addKeysTo t0 t1 σ = some (r, σ')) : sGo p l e { frames := 2, cells := 0, slots := 0, locals := 132 } s m args below meth c D cy ad X 3 (sQ below args s 0 0 D cy ad (.inr none) X σ') σ 0 [(0, .ref (ad t0)), (1, .ref (ad t1))] [] := by
  replace hf : (b_X1_addKeysTo_2 FU t0 t1 (0 : Int32) σ) = some (r, σ') := hf
  intro H locs ls h hl
  have hx := B.1
  have hb := B.2.1
  refine lv_iconst (v := (0 : Int32)) hx hb dX1_addKeysTo_0 (by decide) ?_
  refine lv_istore_n (lv' := [(2, .int (0 : Int32)), (0, .ref (ad t0)), (1, .ref (ad t1))]) hx hb dX1_addKeysTo_1 rfl hl (by decide) rfl (fun ls hl => ?_)
  exact k_X1_addKeysTo_2 B hr  _ _ _ _ _ ft0 ft1 hf _ _ _ h (lv_sub hl [1, 2, 0] rfl)
set_option maxRecDepth 100000 in
theorem ok_X1_addKeysTo {l : Launch} (hl0 : l.stackTraces = false) {D : va_G} {cy : Nat → ClassId} {ad : Nat → Nat} (hap : sAp ad) (X : sX) (σ : sM) {t0 : Nat} (ft0 : isH t0) {t1 : Nat} (ft1 : isT t1) {r : Unit} {σ' : sM} (hf : f_X1_addKeysTo t0 t1 σ = some (r, σ')) : sMet l yX1_addKeysTo (sWs yX1_addKeysTo cX1_addKeysTo 3 none) 2 132 0 0 D cy ad X σ [.ref (ad t0), .ref (ad t1)] (.inr none) X σ' := by
  refine sMet_of (by decide +kernel) (Nat.le_of_ble_eq_true rfl) hap hl0 ?_
  intro p e s m args below meth c ls B hr htab hl h
  exact k_X1_addKeysTo_0 B hr _ _ _ ft0 ft1 hf _ _ _ h hl
set_option maxHeartbeats 4000000 in
set_option maxRecDepth 100000 in
theorem k_X1_playOn_4 {p : Program} {l : Launch} {e : Env} {s : State} {m : MethodId} {args : Array Value} {below : List Frame} {meth : Method} {c : Code} {D : va_G} {cy : Nat → ClassId} {ad : Nat → Nat} {X : sX} {r : Int32} {σ' : sM} (B : sB p l s m meth c args cX1_playOn 4 RX1 D cy ad) (hr : meth.sig.returnType = (some .int)) : ∀ (n : Nat) (t0 : Nat) (t1 : Nat) (v2 : Int32) (v3 : Int32) (σ : sM) (ft0 : isH t0) (ft1 : isT t1), b_X1_playOn_4 n t0 t1 v2 v3 σ = some (r, σ') → sGo p l e { frames := 4, cells := 0, slots := 0, locals := 176 } s m args below meth c D cy ad X 4 (sQ below args s 0 0 D cy ad (.inr (some (.int r))) X σ') σ 4 [(0, .ref (ad t0)), (1, .ref (ad t1)), (2, .int v2), (3, .int v3)] [] := by
  intro n
  induction n with
  | zero =>
    intro t0 t1 v2 v3 σ ft0 ft1 hf
    exact nomatch (show none = some (r, σ') from hf)
  | succ n ih =>
    intro t0 t1 v2 v3 σ ft0 ft1 hf
    replace hf : (if (σ t0 0) ≤ v3 then (some (v2, σ)) else (chk (inb v3 30) (chk (inb v3 30) (chk (inb v3 30) (wthn (f_X2_change t1 (σ (t0 + 1) (v3).toNatClampNeg) (σ (t0 + 2) (v3).toNatClampNeg) (σ (t0 + 3) (v3).toNatClampNeg) σ) (fun vr5 σ5 => if vr5 = 0 then (b_X1_playOn_4 n t0 t1 v2 (v3 + 1) σ5) else (b_X1_playOn_4 n t0 t1 (v2 + 1) (v3 + 1) σ5))))))) = some (r, σ') := hf
    intro H locs ls h hl
    have hx := B.1
    have hb := B.2.1
    refine lv_iload_n hx hb dX1_playOn_4 rfl (lv_at hl 3 rfl) ?_
    refine lv_aload_n hx hb dX1_playOn_5 rfl (lv_at hl 0 rfl) ?_
    refine g_get B h t0 (H_lt ft0) (C := RX1) (T := TX1) (N := 4) (H_row ft0 _) rfl hin_X1 0 (by decide) hw70 rfl rfl dX1_playOn_6 ?_
    refine lv_icmp_ge (tgt := 46) hx hb dX1_playOn_9 (by decide) (fun c1 => ?_) (fun c1 => ?_)
    · rw [if_pos c1] at hf
      refine lv_iload_n hx hb dX1_playOn_46 rfl (lv_at hl 2 rfl) ?_
      obtain ⟨rfl, rfl⟩ := Prod.mk.inj (Option.some.inj hf)
      exact sE_i B hr h dX1_playOn_47
    · rw [if_neg c1] at hf
      refine lv_aload_n hx hb dX1_playOn_12 rfl (lv_at hl 1 rfl) ?_
      refine lv_aload_n hx hb dX1_playOn_13 rfl (lv_at hl 0 rfl) ?_
      refine g_get B h t0 (H_lt ft0) (C := RX1) (T := TX1) (N := 4) (H_row ft0 _) rfl hin_X1 1 (by decide) hw73 rfl rfl dX1_playOn_14 ?_
      refine lv_iload_n hx hb dX1_playOn_17 rfl (lv_at hl 3 rfl) ?_
      obtain ⟨c2, hf⟩ := chk_some hf
      refine g_cald B h (t0 + 1) (H_lt1 ft0) (n := 30) (H_kinds ft0) (inb_in c2) dX1_playOn_18 ?_
      refine lv_aload_n hx hb dX1_playOn_19 rfl (lv_at hl 0 rfl) ?_
      refine g_get B h t0 (H_lt ft0) (C := RX1) (T := TX1) (N := 4) (H_row ft0 _) rfl hin_X1 2 (by decide) hw74 rfl rfl dX1_playOn_20 ?_
      refine lv_iload_n hx hb dX1_playOn_23 rfl (lv_at hl 3 rfl) ?_
      obtain ⟨c3, hf⟩ := chk_some hf
      refine g_iald B h (t0 + 2) (H_lt2 ft0) (n := 30) (H_keys ft0) (inb_in c3) dX1_playOn_24 ?_
      refine lv_aload_n hx hb dX1_playOn_25 rfl (lv_at hl 0 rfl) ?_
      refine g_get B h t0 (H_lt ft0) (C := RX1) (T := TX1) (N := 4) (H_row ft0 _) rfl hin_X1 3 (by decide) hw75 rfl rfl dX1_playOn_26 ?_
      refine lv_iload_n hx hb dX1_playOn_29 rfl (lv_at hl 3 rfl) ?_
      obtain ⟨c4, hf⟩ := chk_some hf
      refine g_iald B h (t0 + 3) (H_lt3 ft0) (n := 30) (H_nums ft0) (inb_in c4) dX1_playOn_30 ?_
      obtain ⟨vr5, σ5, hq5, hf⟩ := wthn_some hf
      refine sRetC1 (g_runV (k := t1) (T := TX2) (N := 3) B h (ok_X2_change B.2.2.2.2.2.2.2.2 B.2.2.2.2.2.2.1 _ _ ft1 (σ (t0 + 1) (v3).toNatClampNeg) (σ (t0 + 2) (v3).toNatClampNeg) (σ (t0 + 3) (v3).toNatClampNeg) hq5) cw_X1_26 ⟨Nat.le_of_ble_eq_true rfl, Nat.le_of_ble_eq_true rfl⟩ (T_lt ft1) (T_row ft1 _) rfl rfl hl.1.symm rfl (Nat.le_of_ble_eq_true rfl) dX1_playOn_31 ⟨Nat.zero_le _, Nat.zero_le _⟩) h (fun H locs h => ?_)
      refine lv_if_eq (tgt := 40) hx hb dX1_playOn_34 (by decide) (fun c6 => ?_) (fun c6 => ?_)
      · rw [if_pos c6] at hf
        refine lv_iinc (v := (v3 + 1)) (lv' := [(3, .int (v3 + 1)), (0, .ref (ad t0)), (1, .ref (ad t1)), (2, .int v2)]) hx hb dX1_playOn_40 hl (k := 3) rfl rfl (by decide) rfl (fun ls hl => ?_)
        refine lv_goto (tgt := 4) hx hb dX1_playOn_43 (by decide) ?_
        exact ih _ _ _ _ _ ft0 ft1 hf _ _ _ h (lv_sub hl [1, 2, 3, 0] rfl)
      · rw [if_neg c6] at hf
        refine lv_iinc (v := (v2 + 1)) (lv' := [(2, .int (v2 + 1)), (0, .ref (ad t0)), (1, .ref (ad t1)), (3, .int v3)]) hx hb dX1_playOn_37 hl (k := 2) rfl rfl (by decide) rfl (fun ls hl => ?_)
        refine lv_iinc (v := (v3 + 1)) (lv' := [(3, .int (v3 + 1)), (2, .int (v2 + 1)), (0, .ref (ad t0)), (1, .ref (ad t1))]) hx hb dX1_playOn_40 hl (k := 3) rfl rfl (by decide) rfl (fun ls hl => ?_)
        refine lv_goto (tgt := 4) hx hb dX1_playOn_43 (by decide) ?_
        exact ih _ _ _ _ _ ft0 ft1 hf _ _ _ h (lv_sub hl [2, 3, 1, 0] rfl)
set_option maxHeartbeats 4000000 in
set_option maxRecDepth 100000 in
theorem k_X1_playOn_0 {p : Program} {l : Launch} {e : Env} {s : State} {m : MethodId} {args : Array Value} {below : List Frame} {meth : Method} {c : Code} {D : va_G} {cy : Nat → ClassId} {ad : Nat → Nat} {X : sX} {r : Int32} {σ' : sM} (B : sB p l s m meth c args cX1_playOn 4 RX1 D cy ad) (hr : meth.sig.returnType = (some .int)) (t0 : Nat) (t1 : Nat) (σ : sM) (ft0 : isH t0) (ft1 : isT t1) (hf : f_X1_playOn t0 t1 σ = some (r, σ')) : sGo p l e { frames := 4, cells := 0, slots := 0, locals := 176 } s m args below meth c D cy ad X 4 (sQ below args s 0 0 D cy ad (.inr (some (.int r))) X σ') σ 0 [(0, .ref (ad t0)), (1, .ref (ad t1))] [] := by
  replace hf : (b_X1_playOn_4 FU t0 t1 (0 : Int32) (0 : Int32) σ) = some (r, σ') := hf
  intro H locs ls h hl
  have hx := B.1
  have hb := B.2.1
  refine lv_iconst (v := (0 : Int32)) hx hb dX1_playOn_0 (by decide) ?_
  refine lv_istore_n (lv' := [(2, .int (0 : Int32)), (0, .ref (ad t0)), (1, .ref (ad t1))]) hx hb dX1_playOn_1 rfl hl (by decide) rfl (fun ls hl => ?_)
  refine lv_iconst (v := (0 : Int32)) hx hb dX1_playOn_2 (by decide) ?_
  refine lv_istore_n (lv' := [(3, .int (0 : Int32)), (2, .int (0 : Int32)), (0, .ref (ad t0)), (1, .ref (ad t1))]) hx hb dX1_playOn_3 rfl hl (by decide) rfl (fun ls hl => ?_)
  exact k_X1_playOn_4 B hr  _ _ _ _ _ _ ft0 ft1 hf _ _ _ h (lv_sub hl [2, 3, 1, 0] rfl)
set_option maxRecDepth 100000 in
theorem ok_X1_playOn {l : Launch} (hl0 : l.stackTraces = false) {D : va_G} {cy : Nat → ClassId} {ad : Nat → Nat} (hap : sAp ad) (X : sX) (σ : sM) {t0 : Nat} (ft0 : isH t0) {t1 : Nat} (ft1 : isT t1) {r : Int32} {σ' : sM} (hf : f_X1_playOn t0 t1 σ = some (r, σ')) : sMet l yX1_playOn (sWs yX1_playOn cX1_playOn 4 (some .int)) 4 176 0 0 D cy ad X σ [.ref (ad t0), .ref (ad t1)] (.inr (some (.int r))) X σ' := by
  refine sMet_of (by decide +kernel) (Nat.le_of_ble_eq_true rfl) hap hl0 ?_
  intro p e s m args below meth c ls B hr htab hl h
  exact k_X1_playOn_0 B hr _ _ _ ft0 ft1 hf _ _ _ h hl
set_option maxHeartbeats 4000000 in
set_option maxRecDepth 100000 in
theorem k_X1_add_0 {p : Program} {l : Launch} {e : Env} {s : State} {m : MethodId} {args : Array Value} {below : List Frame} {meth : Method} {c : Code} {D : va_G} {cy : Nat → ClassId} {ad : Nat → Nat} {X : sX} {r : Unit} {σ' : sM} (B : sB p l s m meth c args cX1_add 4 RX1 D cy ad) (hr : meth.sig.returnType = none) (t0 : Nat) (v1 : Int32) (v2 : Int32) (v3 : Int32) (σ : sM) (ft0 : isH t0) (hf : f_X1_add t0 v1 v2 v3 σ = some (r, σ')) : sGo p l e { frames := 0, cells := 0, slots := 0, locals := 0 } s m args below meth c D cy ad X 4 (sQ below args s 0 0 D cy ad (.inr none) X σ') σ 0 [(0, .ref (ad t0)), (1, .int v1), (2, .int v2), (3, .int v3)] [] := by
  replace hf : (if (σ t0 0) < (30 : Int32) then (chk (inb (σ t0 0) 30) (stl (va_up σ (t0 + 1) (upd (σ (t0 + 1)) ((σ t0 0)).toNatClampNeg (vp_nar .char v1))) (fun σ3 => chk (inb (σ3 t0 0) 30) (stl (va_up σ3 (t0 + 2) (upd (σ3 (t0 + 2)) ((σ3 t0 0)).toNatClampNeg v2)) (fun σ5 => chk (inb (σ5 t0 0) 30) (stl (va_up σ5 (t0 + 3) (upd (σ5 (t0 + 3)) ((σ5 t0 0)).toNatClampNeg v3)) (fun σ7 => stl (va_up σ7 t0 (upd (σ7 t0) 0 ((σ7 t0 0) + (1 : Int32)))) (fun σ8 => some ((), σ8))))))))) else (some ((), σ))) = some (r, σ') := hf
  intro H locs ls h hl
  have hx := B.1
  have hb := B.2.1
  refine lv_aload_n hx hb dX1_add_0 rfl (lv_at hl 0 rfl) ?_
  refine g_get B h t0 (H_lt ft0) (C := RX1) (T := TX1) (N := 4) (H_row ft0 _) rfl hin_X1 0 (by decide) hw70 rfl rfl dX1_add_1 ?_
  refine lv_aload_n hx hb dX1_add_4 rfl (lv_at hl 0 rfl) ?_
  refine g_get B h t0 (H_lt ft0) (C := RX1) (T := TX1) (N := 4) (H_row ft0 _) rfl hin_X1 1 (by decide) hw73 rfl rfl dX1_add_5 ?_
  refine g_alen B h (t0 + 1) (H_lt1 ft0) 1 ((H_kinds ft0) _) rfl (v := (30 : Int32)) rfl dX1_add_8 ?_
  refine lv_icmp_lt (tgt := 13) hx hb dX1_add_9 (by decide) (fun c1 => ?_) (fun c1 => ?_)
  · rw [if_pos c1] at hf
    refine lv_aload_n hx hb dX1_add_13 rfl (lv_at hl 0 rfl) ?_
    refine g_get B h t0 (H_lt ft0) (C := RX1) (T := TX1) (N := 4) (H_row ft0 _) rfl hin_X1 1 (by decide) hw73 rfl rfl dX1_add_14 ?_
    refine lv_aload_n hx hb dX1_add_17 rfl (lv_at hl 0 rfl) ?_
    refine g_get B h t0 (H_lt ft0) (C := RX1) (T := TX1) (N := 4) (H_row ft0 _) rfl hin_X1 0 (by decide) hw70 rfl rfl dX1_add_18 ?_
    refine lv_iload_n hx hb dX1_add_21 rfl (lv_at hl 1 rfl) ?_
    obtain ⟨c2, hf⟩ := chk_some hf
    refine g_cast B h (t0 + 1) (H_lt1 ft0) (n := 30) (H_kinds ft0) (inb_in c2) dX1_add_22 (fun H locs h => ?_)
    obtain ⟨σ3, e3, hf⟩ := stl_some hf
    rw [← e3] at h
    refine lv_aload_n hx hb dX1_add_23 rfl (lv_at hl 0 rfl) ?_
    refine g_get B h t0 (H_lt ft0) (C := RX1) (T := TX1) (N := 4) (H_row ft0 _) rfl hin_X1 2 (by decide) hw74 rfl rfl dX1_add_24 ?_
    refine lv_aload_n hx hb dX1_add_27 rfl (lv_at hl 0 rfl) ?_
    refine g_get B h t0 (H_lt ft0) (C := RX1) (T := TX1) (N := 4) (H_row ft0 _) rfl hin_X1 0 (by decide) hw70 rfl rfl dX1_add_28 ?_
    refine lv_iload_n hx hb dX1_add_31 rfl (lv_at hl 2 rfl) ?_
    obtain ⟨c4, hf⟩ := chk_some hf
    refine g_iast B h (t0 + 2) (H_lt2 ft0) (n := 30) (H_keys ft0) (inb_in c4) dX1_add_32 (fun H locs h => ?_)
    obtain ⟨σ5, e5, hf⟩ := stl_some hf
    rw [← e5] at h
    refine lv_aload_n hx hb dX1_add_33 rfl (lv_at hl 0 rfl) ?_
    refine g_get B h t0 (H_lt ft0) (C := RX1) (T := TX1) (N := 4) (H_row ft0 _) rfl hin_X1 3 (by decide) hw75 rfl rfl dX1_add_34 ?_
    refine lv_aload_n hx hb dX1_add_37 rfl (lv_at hl 0 rfl) ?_
    refine g_get B h t0 (H_lt ft0) (C := RX1) (T := TX1) (N := 4) (H_row ft0 _) rfl hin_X1 0 (by decide) hw70 rfl rfl dX1_add_38 ?_
    refine lv_iload_n hx hb dX1_add_41 rfl (lv_at hl 3 rfl) ?_
    obtain ⟨c6, hf⟩ := chk_some hf
    refine g_iast B h (t0 + 3) (H_lt3 ft0) (n := 30) (H_nums ft0) (inb_in c6) dX1_add_42 (fun H locs h => ?_)
    obtain ⟨σ7, e7, hf⟩ := stl_some hf
    rw [← e7] at h
    refine lv_aload_n hx hb dX1_add_43 rfl (lv_at hl 0 rfl) ?_
    refine lv_dup hx hb dX1_add_44 rfl ?_
    refine g_get B h t0 (H_lt ft0) (C := RX1) (T := TX1) (N := 4) (H_row ft0 _) rfl hin_X1 0 (by decide) hw70 rfl rfl dX1_add_45 ?_
    refine lv_iconst (v := (1 : Int32)) hx hb dX1_add_48 (by decide) ?_
    refine lv_iadd hx hb dX1_add_49 ?_
    refine g_put B h t0 (H_lt ft0) (C := RX1) (T := TX1) (N := 4) (H_row ft0 _) rfl hin_X1 tyX1 tyX1_ok nmX1 0 (by decide) hw70 rfl rfl rfl rfl (upd (σ7 t0) 0 ((σ7 t0 0) + (1 : Int32))) (H_put0 ft0 _ _) (Nat.le_of_ble_eq_true rfl) dX1_add_50 (fun H locs h => ?_)
    obtain ⟨σ8, e8, hf⟩ := stl_some hf
    rw [← e8] at h
    obtain ⟨rfl, rfl⟩ := Prod.mk.inj (Option.some.inj hf)
    exact sE_v B hr h dX1_add_53
  · rw [if_neg c1] at hf
    obtain ⟨rfl, rfl⟩ := Prod.mk.inj (Option.some.inj hf)
    exact sE_v B hr h dX1_add_12
set_option maxRecDepth 100000 in
theorem ok_X1_add {l : Launch} (hl0 : l.stackTraces = false) {D : va_G} {cy : Nat → ClassId} {ad : Nat → Nat} (hap : sAp ad) (X : sX) (σ : sM) {t0 : Nat} (ft0 : isH t0) (v1 : Int32) (v2 : Int32) (v3 : Int32) {r : Unit} {σ' : sM} (hf : f_X1_add t0 v1 v2 v3 σ = some (r, σ')) : sMet l yX1_add (sWs yX1_add cX1_add 4 none) 0 0 0 0 D cy ad X σ [.ref (ad t0), .int v1, .int v2, .int v3] (.inr none) X σ' := by
  refine sMet_of (by decide +kernel) (Nat.le_of_ble_eq_true rfl) hap hl0 ?_
  intro p e s m args below meth c ls B hr htab hl h
  exact k_X1_add_0 B hr _ _ _ _ _ ft0 hf _ _ _ h hl
set_option maxHeartbeats 4000000 in
set_option maxRecDepth 100000 in
theorem k_X1_addTo_11 {p : Program} {l : Launch} {e : Env} {s : State} {m : MethodId} {args : Array Value} {below : List Frame} {meth : Method} {c : Code} {D : va_G} {cy : Nat → ClassId} {ad : Nat → Nat} {X : sX} {r : Int64} (B : sB p l s m meth c args cX1_addTo 4 RX1 D cy ad) (hr : meth.sig.returnType = (some .long)) : ∀ (n : Nat) (t0 : Nat) (v1 : Int64) (v3 : Int32) (σ : sM) (ft0 : isH t0), b_X1_addTo_11 n t0 v1 v3 σ = some r → sGo p l e { frames := 1, cells := 0, slots := 0, locals := 22 } s m args below meth c D cy ad X 4 (sQ below args s 0 0 D cy ad (.inr (some (.long r))) X σ) σ 11 [(0, .ref (ad t0)), (1, .long v1), (3, .int v3)] [] := by
  intro n
  induction n with
  | zero =>
    intro t0 v1 v3 σ ft0 hf
    exact nomatch (show none = some r from hf)
  | succ n ih =>
    intro t0 v1 v3 σ ft0 hf
    replace hf : (if (σ t0 0) ≤ v3 then (some v1) else (chk (inb v3 30) (rthn (f_X4_chain v1 (σ (t0 + 1) (v3).toNatClampNeg) σ) (fun vr4 => chk (inb v3 30) (rthn (f_X4_chain vr4 (σ (t0 + 2) (v3).toNatClampNeg) σ) (fun vr6 => chk (inb v3 30) (rthn (f_X4_chain vr6 (σ (t0 + 3) (v3).toNatClampNeg) σ) (fun vr8 => b_X1_addTo_11 n t0 vr8 (v3 + 1) σ)))))))) = some r := hf
    intro H locs ls h hl
    have hx := B.1
    have hb := B.2.1
    refine lv_iload_n hx hb dX1_addTo_11 rfl (lv_at hl 2 rfl) ?_
    refine lv_aload_n hx hb dX1_addTo_12 rfl (lv_at hl 0 rfl) ?_
    refine g_get B h t0 (H_lt ft0) (C := RX1) (T := TX1) (N := 4) (H_row ft0 _) rfl hin_X1 0 (by decide) hw70 rfl rfl dX1_addTo_13 ?_
    refine lv_icmp_ge (tgt := 54) hx hb dX1_addTo_16 (by decide) (fun c2 => ?_) (fun c2 => ?_)
    · rw [if_pos c2] at hf
      refine lv_lload_n hx hb dX1_addTo_54 rfl (lv_at hl 1 rfl) ?_
      obtain rfl := Option.some.inj hf
      exact sE_l B hr h dX1_addTo_55
    · rw [if_neg c2] at hf
      refine lv_lload_n hx hb dX1_addTo_19 rfl (lv_at hl 1 rfl) ?_
      refine lv_aload_n hx hb dX1_addTo_20 rfl (lv_at hl 0 rfl) ?_
      refine g_get B h t0 (H_lt ft0) (C := RX1) (T := TX1) (N := 4) (H_row ft0 _) rfl hin_X1 1 (by decide) hw73 rfl rfl dX1_addTo_21 ?_
      refine lv_iload_n hx hb dX1_addTo_24 rfl (lv_at hl 2 rfl) ?_
      obtain ⟨c3, hf⟩ := chk_some hf
      refine g_cald B h (t0 + 1) (H_lt1 ft0) (n := 30) (H_kinds ft0) (inb_in c3) dX1_addTo_25 ?_
      obtain ⟨vr4, hq4, hf⟩ := rthn_some hf
      refine sRetC1 (g_runSN (host := RX4) (n := 2) B h (ok_X4_chain B.2.2.2.2.2.2.2.2 B.2.2.2.2.2.2.1 _ _ v1 (σ (t0 + 1) (v3).toNatClampNeg) hq4) hw163 (by decide +kernel) hw1 hw162 (by decide +kernel) ⟨Nat.le_of_ble_eq_true rfl, Nat.le_of_ble_eq_true rfl⟩ rfl hl.1.symm rfl (Nat.le_of_ble_eq_true rfl) dX1_addTo_26 ⟨Nat.zero_le _, Nat.zero_le _⟩) h (fun H locs h => ?_)
      refine lv_aload_n hx hb dX1_addTo_29 rfl (lv_at hl 0 rfl) ?_
      refine g_get B h t0 (H_lt ft0) (C := RX1) (T := TX1) (N := 4) (H_row ft0 _) rfl hin_X1 2 (by decide) hw74 rfl rfl dX1_addTo_30 ?_
      refine lv_iload_n hx hb dX1_addTo_33 rfl (lv_at hl 2 rfl) ?_
      obtain ⟨c5, hf⟩ := chk_some hf
      refine g_iald B h (t0 + 2) (H_lt2 ft0) (n := 30) (H_keys ft0) (inb_in c5) dX1_addTo_34 ?_
      obtain ⟨vr6, hq6, hf⟩ := rthn_some hf
      refine sRetC1 (g_runSN (host := RX4) (n := 2) B h (ok_X4_chain B.2.2.2.2.2.2.2.2 B.2.2.2.2.2.2.1 _ _ vr4 (σ (t0 + 2) (v3).toNatClampNeg) hq6) hw163 (by decide +kernel) hw1 hw162 (by decide +kernel) ⟨Nat.le_of_ble_eq_true rfl, Nat.le_of_ble_eq_true rfl⟩ rfl hl.1.symm rfl (Nat.le_of_ble_eq_true rfl) dX1_addTo_35 ⟨Nat.zero_le _, Nat.zero_le _⟩) h (fun H locs h => ?_)
      refine lv_aload_n hx hb dX1_addTo_38 rfl (lv_at hl 0 rfl) ?_
      refine g_get B h t0 (H_lt ft0) (C := RX1) (T := TX1) (N := 4) (H_row ft0 _) rfl hin_X1 3 (by decide) hw75 rfl rfl dX1_addTo_39 ?_
      refine lv_iload_n hx hb dX1_addTo_42 rfl (lv_at hl 2 rfl) ?_
      obtain ⟨c7, hf⟩ := chk_some hf
      refine g_iald B h (t0 + 3) (H_lt3 ft0) (n := 30) (H_nums ft0) (inb_in c7) dX1_addTo_43 ?_
      obtain ⟨vr8, hq8, hf⟩ := rthn_some hf
      refine sRetC1 (g_runSN (host := RX4) (n := 2) B h (ok_X4_chain B.2.2.2.2.2.2.2.2 B.2.2.2.2.2.2.1 _ _ vr6 (σ (t0 + 3) (v3).toNatClampNeg) hq8) hw163 (by decide +kernel) hw1 hw162 (by decide +kernel) ⟨Nat.le_of_ble_eq_true rfl, Nat.le_of_ble_eq_true rfl⟩ rfl hl.1.symm rfl (Nat.le_of_ble_eq_true rfl) dX1_addTo_44 ⟨Nat.zero_le _, Nat.zero_le _⟩) h (fun H locs h => ?_)
      refine lv_lstore_n (lv' := [(1, .long vr8), (0, .ref (ad t0)), (3, .int v3)]) hx hb dX1_addTo_47 rfl hl (by decide) rfl (fun ls hl => ?_)
      refine lv_iinc (v := (v3 + 1)) (lv' := [(3, .int (v3 + 1)), (1, .long vr8), (0, .ref (ad t0))]) hx hb dX1_addTo_48 hl (k := 2) rfl rfl (by decide) rfl (fun ls hl => ?_)
      refine lv_goto (tgt := 11) hx hb dX1_addTo_51 (by decide) ?_
      exact ih _ _ _ _ ft0 hf _ _ _ h (lv_sub hl [2, 1, 0] rfl)
set_option maxHeartbeats 4000000 in
set_option maxRecDepth 100000 in
theorem k_X1_addTo_0 {p : Program} {l : Launch} {e : Env} {s : State} {m : MethodId} {args : Array Value} {below : List Frame} {meth : Method} {c : Code} {D : va_G} {cy : Nat → ClassId} {ad : Nat → Nat} {X : sX} {r : Int64} (B : sB p l s m meth c args cX1_addTo 4 RX1 D cy ad) (hr : meth.sig.returnType = (some .long)) (t0 : Nat) (v1 : Int64) (σ : sM) (ft0 : isH t0) (hf : f_X1_addTo t0 v1 σ = some r) : sGo p l e { frames := 1, cells := 0, slots := 0, locals := 22 } s m args below meth c D cy ad X 4 (sQ below args s 0 0 D cy ad (.inr (some (.long r))) X σ) σ 0 [(0, .ref (ad t0)), (1, .long v1)] [] := by
  replace hf : (rthn (f_X4_chain v1 (σ t0 0) σ) (fun vr1 => b_X1_addTo_11 FU t0 vr1 (0 : Int32) σ)) = some r := hf
  intro H locs ls h hl
  have hx := B.1
  have hb := B.2.1
  refine lv_lload_n hx hb dX1_addTo_0 rfl (lv_at hl 1 rfl) ?_
  refine lv_aload_n hx hb dX1_addTo_1 rfl (lv_at hl 0 rfl) ?_
  refine g_get B h t0 (H_lt ft0) (C := RX1) (T := TX1) (N := 4) (H_row ft0 _) rfl hin_X1 0 (by decide) hw70 rfl rfl dX1_addTo_2 ?_
  obtain ⟨vr1, hq1, hf⟩ := rthn_some hf
  refine sRetC1 (g_runSN (host := RX4) (n := 2) B h (ok_X4_chain B.2.2.2.2.2.2.2.2 B.2.2.2.2.2.2.1 _ _ v1 (σ t0 0) hq1) hw163 (by decide +kernel) hw1 hw162 (by decide +kernel) ⟨Nat.le_of_ble_eq_true rfl, Nat.le_of_ble_eq_true rfl⟩ rfl hl.1.symm rfl (Nat.le_of_ble_eq_true rfl) dX1_addTo_5 ⟨Nat.zero_le _, Nat.zero_le _⟩) h (fun H locs h => ?_)
  refine lv_lstore_n (lv' := [(1, .long vr1), (0, .ref (ad t0))]) hx hb dX1_addTo_8 rfl hl (by decide) rfl (fun ls hl => ?_)
  refine lv_iconst (v := (0 : Int32)) hx hb dX1_addTo_9 (by decide) ?_
  refine lv_istore_n (lv' := [(3, .int (0 : Int32)), (1, .long vr1), (0, .ref (ad t0))]) hx hb dX1_addTo_10 rfl hl (by decide) rfl (fun ls hl => ?_)
  exact k_X1_addTo_11 B hr  _ _ _ _ _ ft0 hf _ _ _ h (lv_sub hl [2, 1, 0] rfl)
set_option maxRecDepth 100000 in
theorem ok_X1_addTo {l : Launch} (hl0 : l.stackTraces = false) {D : va_G} {cy : Nat → ClassId} {ad : Nat → Nat} (hap : sAp ad) (X : sX) (σ : sM) {t0 : Nat} (ft0 : isH t0) (v1 : Int64) {r : Int64} (hf : f_X1_addTo t0 v1 σ = some r) : sMet l yX1_addTo (sWs yX1_addTo cX1_addTo 4 (some .long)) 1 22 0 0 D cy ad X σ [.ref (ad t0), .long v1] (.inr (some (.long r))) X σ := by
  refine sMet_of (by decide +kernel) (Nat.le_of_ble_eq_true rfl) hap hl0 ?_
  intro p e s m args below meth c ls B hr htab hl h
  exact k_X1_addTo_0 B hr _ _ _ ft0 hf _ _ _ h hl
set_option maxHeartbeats 4000000 in
set_option maxRecDepth 100000 in
theorem k_X1_doStep_0 {p : Program} {l : Launch} {e : Env} {s : State} {m : MethodId} {args : Array Value} {below : List Frame} {meth : Method} {c : Code} {D : va_G} {cy : Nat → ClassId} {ad : Nat → Nat} {X : sX} {r : Unit} {σ' : sM} (B : sB p l s m meth c args cX1_doStep 3 RX1 D cy ad) (hr : meth.sig.returnType = none) (t0 : Nat) (v1 : Int32) (t2 : Nat) (σ : sM) (ft0 : isH t0) (ft2 : isT t2) (hf : f_X1_doStep t0 v1 t2 σ = some (r, σ')) : sGo p l e { frames := 4, cells := 0, slots := 0, locals := 176 } s m args below meth c D cy ad X 3 (sQ below args s 0 0 D cy ad (.inr none) X σ') σ 0 [(0, .ref (ad t0)), (1, .int v1), (2, .ref (ad t2))] [] := by
  replace hf : (if v1 < 0 then (some ((), σ)) else (if (σ t0 0) ≤ v1 then (some ((), σ)) else (chk (inb v1 30) (chk (inb v1 30) (chk (inb v1 30) (wthn (f_X2_change t2 (σ (t0 + 1) (v1).toNatClampNeg) (σ (t0 + 2) (v1).toNatClampNeg) (σ (t0 + 3) (v1).toNatClampNeg) σ) (fun vr6 σ6 => some ((), σ6)))))))) = some (r, σ') := hf
  intro H locs ls h hl
  have hx := B.1
  have hb := B.2.1
  refine lv_iload_n hx hb dX1_doStep_0 rfl (lv_at hl 1 rfl) ?_
  refine lv_if_lt (tgt := 35) hx hb dX1_doStep_1 (by decide) (fun c1 => ?_) (fun c1 => ?_)
  · rw [if_pos c1] at hf
    obtain ⟨rfl, rfl⟩ := Prod.mk.inj (Option.some.inj hf)
    exact sE_v B hr h dX1_doStep_35
  · rw [if_neg c1] at hf
    refine lv_iload_n hx hb dX1_doStep_4 rfl (lv_at hl 1 rfl) ?_
    refine lv_aload_n hx hb dX1_doStep_5 rfl (lv_at hl 0 rfl) ?_
    refine g_get B h t0 (H_lt ft0) (C := RX1) (T := TX1) (N := 4) (H_row ft0 _) rfl hin_X1 0 (by decide) hw70 rfl rfl dX1_doStep_6 ?_
    refine lv_icmp_ge (tgt := 35) hx hb dX1_doStep_9 (by decide) (fun c2 => ?_) (fun c2 => ?_)
    · rw [if_pos c2] at hf
      obtain ⟨rfl, rfl⟩ := Prod.mk.inj (Option.some.inj hf)
      exact sE_v B hr h dX1_doStep_35
    · rw [if_neg c2] at hf
      refine lv_aload_n hx hb dX1_doStep_12 rfl (lv_at hl 2 rfl) ?_
      refine lv_aload_n hx hb dX1_doStep_13 rfl (lv_at hl 0 rfl) ?_
      refine g_get B h t0 (H_lt ft0) (C := RX1) (T := TX1) (N := 4) (H_row ft0 _) rfl hin_X1 1 (by decide) hw73 rfl rfl dX1_doStep_14 ?_
      refine lv_iload_n hx hb dX1_doStep_17 rfl (lv_at hl 1 rfl) ?_
      obtain ⟨c3, hf⟩ := chk_some hf
      refine g_cald B h (t0 + 1) (H_lt1 ft0) (n := 30) (H_kinds ft0) (inb_in c3) dX1_doStep_18 ?_
      refine lv_aload_n hx hb dX1_doStep_19 rfl (lv_at hl 0 rfl) ?_
      refine g_get B h t0 (H_lt ft0) (C := RX1) (T := TX1) (N := 4) (H_row ft0 _) rfl hin_X1 2 (by decide) hw74 rfl rfl dX1_doStep_20 ?_
      refine lv_iload_n hx hb dX1_doStep_23 rfl (lv_at hl 1 rfl) ?_
      obtain ⟨c4, hf⟩ := chk_some hf
      refine g_iald B h (t0 + 2) (H_lt2 ft0) (n := 30) (H_keys ft0) (inb_in c4) dX1_doStep_24 ?_
      refine lv_aload_n hx hb dX1_doStep_25 rfl (lv_at hl 0 rfl) ?_
      refine g_get B h t0 (H_lt ft0) (C := RX1) (T := TX1) (N := 4) (H_row ft0 _) rfl hin_X1 3 (by decide) hw75 rfl rfl dX1_doStep_26 ?_
      refine lv_iload_n hx hb dX1_doStep_29 rfl (lv_at hl 1 rfl) ?_
      obtain ⟨c5, hf⟩ := chk_some hf
      refine g_iald B h (t0 + 3) (H_lt3 ft0) (n := 30) (H_nums ft0) (inb_in c5) dX1_doStep_30 ?_
      obtain ⟨vr6, σ6, hq6, hf⟩ := wthn_some hf
      refine sRetC1 (g_runV (k := t2) (T := TX2) (N := 3) B h (ok_X2_change B.2.2.2.2.2.2.2.2 B.2.2.2.2.2.2.1 _ _ ft2 (σ (t0 + 1) (v1).toNatClampNeg) (σ (t0 + 2) (v1).toNatClampNeg) (σ (t0 + 3) (v1).toNatClampNeg) hq6) cw_X1_26 ⟨Nat.le_of_ble_eq_true rfl, Nat.le_of_ble_eq_true rfl⟩ (T_lt ft2) (T_row ft2 _) rfl rfl hl.1.symm rfl (Nat.le_of_ble_eq_true rfl) dX1_doStep_31 ⟨Nat.zero_le _, Nat.zero_le _⟩) h (fun H locs h => ?_)
      refine lv_pop hx hb dX1_doStep_34 rfl ?_
      obtain ⟨rfl, rfl⟩ := Prod.mk.inj (Option.some.inj hf)
      exact sE_v B hr h dX1_doStep_35
set_option maxRecDepth 100000 in
theorem ok_X1_doStep {l : Launch} (hl0 : l.stackTraces = false) {D : va_G} {cy : Nat → ClassId} {ad : Nat → Nat} (hap : sAp ad) (X : sX) (σ : sM) {t0 : Nat} (ft0 : isH t0) (v1 : Int32) {t2 : Nat} (ft2 : isT t2) {r : Unit} {σ' : sM} (hf : f_X1_doStep t0 v1 t2 σ = some (r, σ')) : sMet l yX1_doStep (sWs yX1_doStep cX1_doStep 3 none) 4 176 0 0 D cy ad X σ [.ref (ad t0), .int v1, .ref (ad t2)] (.inr none) X σ' := by
  refine sMet_of (by decide +kernel) (Nat.le_of_ble_eq_true rfl) hap hl0 ?_
  intro p e s m args below meth c ls B hr htab hl h
  exact k_X1_doStep_0 B hr _ _ _ _ ft0 ft2 hf _ _ _ h hl
