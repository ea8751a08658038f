set_option maxHeartbeats 4000000 in
set_option maxRecDepth 100000 in
theorem k_X5_nearAt_6 {p : Program} {l : Launch} {e : Env} {s : State} {m : MethodId} {args : Array Value} {below : List Frame} {meth : Method} {c : Code} {D : va_G} {cy : Nat → ClassId} {ad : Nat → Nat} {X : sX} {r : Int32} (B : sB p l s m meth c args cX5_nearAt 9 RX5 D cy ad) (hr : meth.sig.returnType = (some .int)) : ∀ (n : Nat) (v1 : Int32) (v3 : Int32) (v4 : Int32) (v5 : Int32) (v6 : Int32) (v7 : Int32) (σ : sM), b_X5_nearAt_6 n v1 v3 v4 v5 v6 v7 σ = some r → sGo p l e { frames := 1, cells := 0, slots := 0, locals := 22 } s m args below meth c D cy ad X 9 (sQ below args s 0 0 D cy ad (.inr (some (.int r))) X σ) σ 6 [(0, .ref (ad 44)), (1, .int v1), (3, .int v3), (4, .int v4), (5, .int v5), (6, .int v6), (7, .int v7)] [] := by
  intro n
  induction n with
  | zero =>
    intro v1 v3 v4 v5 v6 v7 σ hf
    exact nomatch (show none = some r from hf)
  | succ n ih =>
    intro v1 v3 v4 v5 v6 v7 σ hf
    replace hf : (if v3 ≤ v7 then (some v6) else (chk (inb (((60 : Int32) * v1) + v7) 180) (rthn (f_X5_isOnSide (σ 45 ((((60 : Int32) * v1) + v7)).toNatClampNeg) v4 v5 σ) (fun vr3 => if vr3 = 0 then (b_X5_nearAt_6 n v1 v3 v4 v5 v6 (v7 + 1) σ) else (if v6 < 0 then (b_X5_nearAt_6 n v1 v3 v4 v5 v7 (v7 + 1) σ) else (if v5 = (102 : Int32) then (b_X5_nearAt_6 n v1 v3 v4 v5 v7 (v7 + 1) σ) else (if v5 = (108 : Int32) then (b_X5_nearAt_6 n v1 v3 v4 v5 v7 (v7 + 1) σ) else (b_X5_nearAt_6 n v1 v3 v4 v5 v6 (v7 + 1) σ)))))))) = some r := hf
    intro H locs ls h hl
    have hx := B.1
    have hb := B.2.1
    refine lv_iload hx hb dX5_nearAt_6 (lv_at hl 6 rfl) ?_
    refine lv_iload_n hx hb dX5_nearAt_8 rfl (lv_at hl 2 rfl) ?_
    refine lv_icmp_ge (tgt := 72) hx hb dX5_nearAt_9 (by decide) (fun c1 => ?_) (fun c1 => ?_)
    · rw [if_pos c1] at hf
      refine lv_iload hx hb dX5_nearAt_72 (lv_at hl 5 rfl) ?_
      obtain rfl := Option.some.inj hf
      exact sE_i B hr h dX5_nearAt_74
    · rw [if_neg c1] at hf
      refine lv_aload_n hx hb dX5_nearAt_12 rfl (lv_at hl 0 rfl) ?_
      refine g_get B h 44 (by decide) (C := RX5) (T := TX5) (N := 21) (M_row _) rfl hin_X5 0 (by decide) hw826 rfl rfl dX5_nearAt_13 ?_
      refine lv_bipush (v := (60 : Int32)) hx hb dX5_nearAt_16 (by decide) ?_
      refine lv_iload_n hx hb dX5_nearAt_18 rfl (lv_at hl 1 rfl) ?_
      refine lv_imul hx hb dX5_nearAt_19 ?_
      refine lv_iload hx hb dX5_nearAt_20 (lv_at hl 6 rfl) ?_
      refine lv_iadd hx hb dX5_nearAt_22 ?_
      obtain ⟨c2, hf⟩ := chk_some hf
      refine g_iald B h 45 (by decide) (n := 180) (fun _ => rfl) (inb_in c2) dX5_nearAt_23 ?_
      refine lv_iload hx hb dX5_nearAt_24 (lv_at hl 3 rfl) ?_
      refine lv_iload hx hb dX5_nearAt_26 (lv_at hl 4 rfl) ?_
      obtain ⟨vr3, hq3, hf⟩ := rthn_some hf
      refine sRetC1 (g_runS B h (ok_X5_isOnSide B.2.2.2.2.2.2.2.2 B.2.2.2.2.2.2.1 _ _ (σ 45 ((((60 : Int32) * v1) + v7)).toNatClampNeg) v4 v5 hq3) cw_X5_83 ⟨Nat.le_of_ble_eq_true rfl, Nat.le_of_ble_eq_true rfl⟩ rfl hl.1.symm rfl (Nat.le_of_ble_eq_true rfl) dX5_nearAt_28 ⟨Nat.zero_le _, Nat.zero_le _⟩) h (fun H locs h => ?_)
      refine lv_istore (lv' := [(8, .int vr3), (0, .ref (ad 44)), (1, .int v1), (3, .int v3), (4, .int v4), (5, .int v5), (6, .int v6), (7, .int v7)]) hx hb dX5_nearAt_31 hl (by decide) rfl (fun ls hl => ?_)
      refine lv_iload hx hb dX5_nearAt_33 (lv_at hl 0 rfl) ?_
      refine lv_if_eq (tgt := 62) hx hb dX5_nearAt_35 (by decide) (fun c4 => ?_) (fun c4 => ?_)
      · rw [if_pos c4] at hf
        refine lv_iload hx hb dX5_nearAt_62 (lv_at hl 6 rfl) ?_
        refine lv_istore (lv' := [(6, .int v6), (8, .int vr3), (0, .ref (ad 44)), (1, .int v1), (3, .int v3), (4, .int v4), (5, .int v5), (7, .int v7)]) hx hb dX5_nearAt_64 hl (by decide) rfl (fun ls hl => ?_)
        refine lv_iinc (v := (v7 + 1)) (lv' := [(7, .int (v7 + 1)), (6, .int v6), (8, .int vr3), (0, .ref (ad 44)), (1, .int v1), (3, .int v3), (4, .int v4), (5, .int v5)]) hx hb dX5_nearAt_66 hl (k := 7) rfl rfl (by decide) rfl (fun ls hl => ?_)
        refine lv_goto (tgt := 6) hx hb dX5_nearAt_69 (by decide) ?_
        exact ih _ _ _ _ _ _ _ hf _ _ _ h (lv_sub hl [3, 4, 5, 6, 7, 1, 0] rfl)
      · rw [if_neg c4] at hf
        refine lv_iload hx hb dX5_nearAt_38 (lv_at hl 6 rfl) ?_
        refine lv_if_lt (tgt := 57) hx hb dX5_nearAt_40 (by decide) (fun c5 => ?_) (fun c5 => ?_)
        · rw [if_pos c5] at hf
          refine lv_iload hx hb dX5_nearAt_57 (lv_at hl 7 rfl) ?_
          refine lv_goto (tgt := 64) hx hb dX5_nearAt_59 (by decide) ?_
          refine lv_istore (lv' := [(6, .int v7), (8, .int vr3), (0, .ref (ad 44)), (1, .int v1), (3, .int v3), (4, .int v4), (5, .int v5), (7, .int v7)]) hx hb dX5_nearAt_64 hl (by decide) rfl (fun ls hl => ?_)
          refine lv_iinc (v := (v7 + 1)) (lv' := [(7, .int (v7 + 1)), (6, .int v7), (8, .int vr3), (0, .ref (ad 44)), (1, .int v1), (3, .int v3), (4, .int v4), (5, .int v5)]) hx hb dX5_nearAt_66 hl (k := 7) rfl rfl (by decide) rfl (fun ls hl => ?_)
          refine lv_goto (tgt := 6) hx hb dX5_nearAt_69 (by decide) ?_
          exact ih _ _ _ _ _ _ _ hf _ _ _ h (lv_sub hl [3, 4, 5, 6, 7, 1, 0] rfl)
        · rw [if_neg c5] at hf
          refine lv_iload hx hb dX5_nearAt_43 (lv_at hl 5 rfl) ?_
          refine lv_bipush (v := (102 : Int32)) hx hb dX5_nearAt_45 (by decide) ?_
          refine lv_icmp_eq (tgt := 57) hx hb dX5_nearAt_47 (by decide) (fun c6 => ?_) (fun c6 => ?_)
          · rw [if_pos c6] at hf
            refine lv_iload hx hb dX5_nearAt_57 (lv_at hl 7 rfl) ?_
            refine lv_goto (tgt := 64) hx hb dX5_nearAt_59 (by decide) ?_
            refine lv_istore (lv' := [(6, .int v7), (8, .int vr3), (0, .ref (ad 44)), (1, .int v1), (3, .int v3), (4, .int v4), (5, .int v5), (7, .int v7)]) hx hb dX5_nearAt_64 hl (by decide) rfl (fun ls hl => ?_)
            refine lv_iinc (v := (v7 + 1)) (lv' := [(7, .int (v7 + 1)), (6, .int v7), (8, .int vr3), (0, .ref (ad 44)), (1, .int v1), (3, .int v3), (4, .int v4), (5, .int v5)]) hx hb dX5_nearAt_66 hl (k := 7) rfl rfl (by decide) rfl (fun ls hl => ?_)
            refine lv_goto (tgt := 6) hx hb dX5_nearAt_69 (by decide) ?_
            exact ih _ _ _ _ _ _ _ hf _ _ _ h (lv_sub hl [3, 4, 5, 6, 7, 1, 0] rfl)
          · rw [if_neg c6] at hf
            refine lv_iload hx hb dX5_nearAt_50 (lv_at hl 5 rfl) ?_
            refine lv_bipush (v := (108 : Int32)) hx hb dX5_nearAt_52 (by decide) ?_
            refine lv_icmp_ne (tgt := 62) hx hb dX5_nearAt_54 (by decide) (fun c7 => ?_) (fun c7 => ?_)
            · rw [if_neg c7] at hf
              refine lv_iload hx hb dX5_nearAt_62 (lv_at hl 6 rfl) ?_
              refine lv_istore (lv' := [(6, .int v6), (8, .int vr3), (0, .ref (ad 44)), (1, .int v1), (3, .int v3), (4, .int v4), (5, .int v5), (7, .int v7)]) hx hb dX5_nearAt_64 hl (by decide) rfl (fun ls hl => ?_)
              refine lv_iinc (v := (v7 + 1)) (lv' := [(7, .int (v7 + 1)), (6, .int v6), (8, .int vr3), (0, .ref (ad 44)), (1, .int v1), (3, .int v3), (4, .int v4), (5, .int v5)]) hx hb dX5_nearAt_66 hl (k := 7) rfl rfl (by decide) rfl (fun ls hl => ?_)
              refine lv_goto (tgt := 6) hx hb dX5_nearAt_69 (by decide) ?_
              exact ih _ _ _ _ _ _ _ hf _ _ _ h (lv_sub hl [3, 4, 5, 6, 7, 1, 0] rfl)
            · rw [if_pos c7] at hf
              refine lv_iload hx hb dX5_nearAt_57 (lv_at hl 7 rfl) ?_
              refine lv_goto (tgt := 64) hx hb dX5_nearAt_59 (by decide) ?_
              refine lv_istore (lv' := [(6, .int v7), (8, .int vr3), (0, .ref (ad 44)), (1, .int v1), (3, .int v3), (4, .int v4), (5, .int v5), (7, .int v7)]) hx hb dX5_nearAt_64 hl (by decide) rfl (fun ls hl => ?_)
              refine lv_iinc (v := (v7 + 1)) (lv' := [(7, .int (v7 + 1)), (6, .int v7), (8, .int vr3), (0, .ref (ad 44)), (1, .int v1), (3, .int v3), (4, .int v4), (5, .int v5)]) hx hb dX5_nearAt_66 hl (k := 7) rfl rfl (by decide) rfl (fun ls hl => ?_)
              refine lv_goto (tgt := 6) hx hb dX5_nearAt_69 (by decide) ?_
              exact ih _ _ _ _ _ _ _ hf _ _ _ h (lv_sub hl [3, 4, 5, 6, 7, 1, 0] rfl)
set_option maxHeartbeats 4000000 in
set_option maxRecDepth 100000 in
theorem k_X5_nearAt_0 {p : Program} {l : Launch} {e : Env} {s : State} {m : MethodId} {args : Array Value} {below : List Frame} {meth : Method} {c : Code} {D : va_G} {cy : Nat → ClassId} {ad : Nat → Nat} {X : sX} {r : Int32} (B : sB p l s m meth c args cX5_nearAt 9 RX5 D cy ad) (hr : meth.sig.returnType = (some .int)) (v1 : Int32) (v2 : Int32) (v3 : Int32) (v4 : Int32) (v5 : Int32) (σ : sM) (hf : f_X5_nearAt v1 v2 v3 v4 v5 σ = some r) : sGo p l e { frames := 1, cells := 0, slots := 0, locals := 22 } s m args below meth c D cy ad X 9 (sQ below args s 0 0 D cy ad (.inr (some (.int r))) X σ) σ 0 [(0, .ref (ad 44)), (1, .int v1), (2, .int v2), (3, .int v3), (4, .int v4), (5, .int v5)] [] := by
  replace hf : (b_X5_nearAt_6 FU v1 v3 v4 v5 (-1 : Int32) v2 σ) = some r := hf
  intro H locs ls h hl
  have hx := B.1
  have hb := B.2.1
  refine lv_iconst (v := (-1 : Int32)) hx hb dX5_nearAt_0 (by decide) ?_
  refine lv_istore (lv' := [(6, .int (-1 : Int32)), (0, .ref (ad 44)), (1, .int v1), (2, .int v2), (3, .int v3), (4, .int v4), (5, .int v5)]) hx hb dX5_nearAt_1 hl (by decide) rfl (fun ls hl => ?_)
  refine lv_iload_n hx hb dX5_nearAt_3 rfl (lv_at hl 3 rfl) ?_
  refine lv_istore (lv' := [(7, .int v2), (6, .int (-1 : Int32)), (0, .ref (ad 44)), (1, .int v1), (2, .int v2), (3, .int v3), (4, .int v4), (5, .int v5)]) hx hb dX5_nearAt_4 hl (by decide) rfl (fun ls hl => ?_)
  exact k_X5_nearAt_6 B hr  _ _ _ _ _ _ _ _ hf _ _ _ h (lv_sub hl [2, 3, 5, 6, 7, 1, 0] rfl)
set_option maxRecDepth 100000 in
theorem ok_X5_nearAt {l : Launch} (hl0 : l.stackTraces = false) {D : va_G} {cy : Nat → ClassId} {ad : Nat → Nat} (hap : sAp ad) (X : sX) (σ : sM) (v1 : Int32) (v2 : Int32) (v3 : Int32) (v4 : Int32) (v5 : Int32) {r : Int32} (hf : f_X5_nearAt v1 v2 v3 v4 v5 σ = some r) : sMet l yX5_nearAt (sWs yX5_nearAt cX5_nearAt 9 (some .int)) 1 22 0 0 D cy ad X σ [.ref (ad 44), .int v1, .int v2, .int v3, .int v4, .int v5] (.inr (some (.int r))) X σ := by
  refine sMet_of (by decide +kernel) (Nat.le_of_ble_eq_true rfl) hap hl0 ?_
  intro p e s m args below meth c ls B hr htab hl h
  exact k_X5_nearAt_0 B hr _ _ _ _ _ _  hf _ _ _ h hl
set_option maxHeartbeats 4000000 in
set_option maxRecDepth 100000 in
theorem k_X5_near_45 {p : Program} {l : Launch} {e : Env} {s : State} {m : MethodId} {args : Array Value} {below : List Frame} {meth : Method} {c : Code} {D : va_G} {cy : Nat → ClassId} {ad : Nat → Nat} {X : sX} {r : Int32} {σ' : sM} (B : sB p l s m meth c args cX5_near 4 RX5 D cy ad) (hr : meth.sig.returnType = (some .int)) (v1 : Int32) (v2 : Int32) (v3 : Int32) (vs1 : Int32) (σ : sM) (hf : b_X5_near_45 v1 v2 v3 vs1 σ = some (r, σ')) : sGo p l e { frames := 2, cells := 0, slots := 0, locals := 50 } s m args below meth c D cy ad X 4 (sQ below args s 0 0 D cy ad (.inr (some (.int r))) X σ') σ 45 [(0, .ref (ad 44)), (1, .int v1), (2, .int v2), (3, .int v3)] [.int vs1, .ref (ad 44)] := by
  replace hf : (wthn (f_X5_refused vs1 σ) (fun vr8 σ8 => if vr8 = 0 then (chk (inb v1 3) (rthn (f_X5_nearAt v1 (0 : Int32) (σ8 47 (v1).toNatClampNeg) v2 v3 σ8) (fun vr11 => chk (inb (((60 : Int32) * v1) + vr11) 180) (some ((σ8 45 ((((60 : Int32) * v1) + vr11)).toNatClampNeg), σ8))))) else (some ((0 : Int32), σ8)))) = some (r, σ') := hf
  intro H locs ls h hl
  have hx := B.1
  have hb := B.2.1
  obtain ⟨vr8, σ8, hq8, hf⟩ := wthn_some hf
  refine sRetC1 (g_runV (k := 44) (T := TX5) (N := 21) B h (ok_X5_refused B.2.2.2.2.2.2.2.2 B.2.2.2.2.2.2.1 _ _ vs1 hq8) cw_X5_95 ⟨Nat.le_of_ble_eq_true rfl, Nat.le_of_ble_eq_true rfl⟩ (by decide) (M_row _) rfl rfl hl.1.symm rfl (Nat.le_of_ble_eq_true rfl) dX5_near_45 ⟨Nat.zero_le _, Nat.zero_le _⟩) h (fun H locs h => ?_)
  refine lv_if_eq (tgt := 53) hx hb dX5_near_48 (by decide) (fun c9 => ?_) (fun c9 => ?_)
  · rw [if_pos c9] at hf
    refine lv_aload_n hx hb dX5_near_53 rfl (lv_at hl 0 rfl) ?_
    refine g_get B h 44 (by decide) (C := RX5) (T := TX5) (N := 21) (M_row _) rfl hin_X5 0 (by decide) hw826 rfl rfl dX5_near_54 ?_
    refine lv_bipush (v := (60 : Int32)) hx hb dX5_near_57 (by decide) ?_
    refine lv_iload_n hx hb dX5_near_59 rfl (lv_at hl 1 rfl) ?_
    refine lv_imul hx hb dX5_near_60 ?_
    refine lv_aload_n hx hb dX5_near_61 rfl (lv_at hl 0 rfl) ?_
    refine lv_iload_n hx hb dX5_near_62 rfl (lv_at hl 1 rfl) ?_
    refine lv_iconst (v := (0 : Int32)) hx hb dX5_near_63 (by decide) ?_
    refine lv_aload_n hx hb dX5_near_64 rfl (lv_at hl 0 rfl) ?_
    refine g_get B h 44 (by decide) (C := RX5) (T := TX5) (N := 21) (M_row _) rfl hin_X5 2 (by decide) hw828 rfl rfl dX5_near_65 ?_
    refine lv_iload_n hx hb dX5_near_68 rfl (lv_at hl 1 rfl) ?_
    obtain ⟨c10, hf⟩ := chk_some hf
    refine g_iald B h 47 (by decide) (n := 3) (fun _ => rfl) (inb_in c10) dX5_near_69 ?_
    refine lv_iload_n hx hb dX5_near_70 rfl (lv_at hl 2 rfl) ?_
    refine lv_iload_n hx hb dX5_near_71 rfl (lv_at hl 3 rfl) ?_
    obtain ⟨vr11, hq11, hf⟩ := rthn_some hf
    refine sRetC1 (g_runV (k := 44) (T := TX5) (N := 21) B h (ok_X5_nearAt B.2.2.2.2.2.2.2.2 B.2.2.2.2.2.2.1 _ _ v1 (0 : Int32) (σ8 47 (v1).toNatClampNeg) v2 v3 hq11) cw_X5_106 ⟨Nat.le_of_ble_eq_true rfl, Nat.le_of_ble_eq_true rfl⟩ (by decide) (M_row _) rfl rfl hl.1.symm rfl (Nat.le_of_ble_eq_true rfl) dX5_near_72 ⟨Nat.zero_le _, Nat.zero_le _⟩) h (fun H locs h => ?_)
    refine lv_iadd hx hb dX5_near_75 ?_
    obtain ⟨c12, hf⟩ := chk_some hf
    refine g_iald B h 45 (by decide) (n := 180) (fun _ => rfl) (inb_in c12) dX5_near_76 ?_
    obtain ⟨rfl, rfl⟩ := Prod.mk.inj (Option.some.inj hf)
    exact sE_i B hr h dX5_near_77
  · rw [if_neg c9] at hf
    refine lv_iconst (v := (0 : Int32)) hx hb dX5_near_51 (by decide) ?_
    obtain ⟨rfl, rfl⟩ := Prod.mk.inj (Option.some.inj hf)
    exact sE_i B hr h dX5_near_52
set_option maxHeartbeats 4000000 in
set_option maxRecDepth 100000 in
theorem k_X5_near_0 {p : Program} {l : Launch} {e : Env} {s : State} {m : MethodId} {args : Array Value} {below : List Frame} {meth : Method} {c : Code} {D : va_G} {cy : Nat → ClassId} {ad : Nat → Nat} {X : sX} {r : Int32} {σ' : sM} (B : sB p l s m meth c args cX5_near 4 RX5 D cy ad) (hr : meth.sig.returnType = (some .int)) (v1 : Int32) (v2 : Int32) (v3 : Int32) (σ : sM) (hf : f_X5_near v1 v2 v3 σ = some (r, σ')) : sGo p l e { frames := 2, cells := 0, slots := 0, locals := 50 } s m args below meth c D cy ad X 4 (sQ below args s 0 0 D cy ad (.inr (some (.int r))) X σ') σ 0 [(0, .ref (ad 44)), (1, .int v1), (2, .int v2), (3, .int v3)] [] := by
  replace hf : (rthn (f_X5_isMap v1 σ) (fun vr1 => if vr1 = 0 then (b_X5_near_45 v1 v2 v3 (1 : Int32) σ) else (rthn (f_X5_isWay v3 σ) (fun vr3 => if vr3 = 0 then (b_X5_near_45 v1 v2 v3 (2 : Int32) σ) else (chk (inb v1 3) (rthn (f_X5_nearAt v1 (0 : Int32) (σ 47 (v1).toNatClampNeg) v2 v3 σ) (fun vr6 => if 0 ≤ vr6 then (b_X5_near_45 v1 v2 v3 (0 : Int32) σ) else (b_X5_near_45 v1 v2 v3 (3 : Int32) σ)))))))) = some (r, σ') := hf
  intro H locs ls h hl
  have hx := B.1
  have hb := B.2.1
  refine lv_aload_n hx hb dX5_near_0 rfl (lv_at hl 0 rfl) ?_
  refine lv_iload_n hx hb dX5_near_1 rfl (lv_at hl 1 rfl) ?_
  obtain ⟨vr1, hq1, hf⟩ := rthn_some hf
  refine sRetC1 (g_runS B h (ok_X5_isMap B.2.2.2.2.2.2.2.2 B.2.2.2.2.2.2.1 _ _ v1 hq1) cw_X5_87 ⟨Nat.le_of_ble_eq_true rfl, Nat.le_of_ble_eq_true rfl⟩ rfl hl.1.symm rfl (Nat.le_of_ble_eq_true rfl) dX5_near_2 ⟨Nat.zero_le _, Nat.zero_le _⟩) h (fun H locs h => ?_)
  refine lv_if_ne (tgt := 12) hx hb dX5_near_5 (by decide) (fun c2 => ?_) (fun c2 => ?_)
  · rw [if_neg c2] at hf
    refine lv_iload_n hx hb dX5_near_12 rfl (lv_at hl 3 rfl) ?_
    obtain ⟨vr3, hq3, hf⟩ := rthn_some hf
    refine sRetC1 (g_runS B h (ok_X5_isWay B.2.2.2.2.2.2.2.2 B.2.2.2.2.2.2.1 _ _ v3 hq3) cw_X5_102 ⟨Nat.le_of_ble_eq_true rfl, Nat.le_of_ble_eq_true rfl⟩ rfl hl.1.symm rfl (Nat.le_of_ble_eq_true rfl) dX5_near_13 ⟨Nat.zero_le _, Nat.zero_le _⟩) h (fun H locs h => ?_)
    refine lv_if_ne (tgt := 23) hx hb dX5_near_16 (by decide) (fun c4 => ?_) (fun c4 => ?_)
    · rw [if_neg c4] at hf
      refine lv_aload_n hx hb dX5_near_23 rfl (lv_at hl 0 rfl) ?_
      refine lv_iload_n hx hb dX5_near_24 rfl (lv_at hl 1 rfl) ?_
      refine lv_iconst (v := (0 : Int32)) hx hb dX5_near_25 (by decide) ?_
      refine lv_aload_n hx hb dX5_near_26 rfl (lv_at hl 0 rfl) ?_
      refine g_get B h 44 (by decide) (C := RX5) (T := TX5) (N := 21) (M_row _) rfl hin_X5 2 (by decide) hw828 rfl rfl dX5_near_27 ?_
      refine lv_iload_n hx hb dX5_near_30 rfl (lv_at hl 1 rfl) ?_
      obtain ⟨c5, hf⟩ := chk_some hf
      refine g_iald B h 47 (by decide) (n := 3) (fun _ => rfl) (inb_in c5) dX5_near_31 ?_
      refine lv_iload_n hx hb dX5_near_32 rfl (lv_at hl 2 rfl) ?_
      refine lv_iload_n hx hb dX5_near_33 rfl (lv_at hl 3 rfl) ?_
      obtain ⟨vr6, hq6, hf⟩ := rthn_some hf
      refine sRetC1 (g_runV (k := 44) (T := TX5) (N := 21) B h (ok_X5_nearAt B.2.2.2.2.2.2.2.2 B.2.2.2.2.2.2.1 _ _ v1 (0 : Int32) (σ 47 (v1).toNatClampNeg) v2 v3 hq6) cw_X5_106 ⟨Nat.le_of_ble_eq_true rfl, Nat.le_of_ble_eq_true rfl⟩ (by decide) (M_row _) rfl rfl hl.1.symm rfl (Nat.le_of_ble_eq_true rfl) dX5_near_34 ⟨Nat.zero_le _, Nat.zero_le _⟩) h (fun H locs h => ?_)
      refine lv_if_ge (tgt := 44) hx hb dX5_near_37 (by decide) (fun c7 => ?_) (fun c7 => ?_)
      · rw [if_pos c7] at hf
        refine lv_iconst (v := (0 : Int32)) hx hb dX5_near_44 (by decide) ?_
        exact k_X5_near_45 B hr  _ _ _ _ _ hf _ _ _ h (lv_sub hl [0, 1, 2, 3] rfl)
      · rw [if_neg c7] at hf
        refine lv_iconst (v := (3 : Int32)) hx hb dX5_near_40 (by decide) ?_
        refine lv_goto (tgt := 45) hx hb dX5_near_41 (by decide) ?_
        exact k_X5_near_45 B hr  _ _ _ _ _ hf _ _ _ h (lv_sub hl [0, 1, 2, 3] rfl)
    · rw [if_pos c4] at hf
      refine lv_iconst (v := (2 : Int32)) hx hb dX5_near_19 (by decide) ?_
      refine lv_goto (tgt := 45) hx hb dX5_near_20 (by decide) ?_
      exact k_X5_near_45 B hr  _ _ _ _ _ hf _ _ _ h (lv_sub hl [0, 1, 2, 3] rfl)
  · rw [if_pos c2] at hf
    refine lv_iconst (v := (1 : Int32)) hx hb dX5_near_8 (by decide) ?_
    refine lv_goto (tgt := 45) hx hb dX5_near_9 (by decide) ?_
    exact k_X5_near_45 B hr  _ _ _ _ _ hf _ _ _ h (lv_sub hl [0, 1, 2, 3] rfl)
set_option maxRecDepth 100000 in
theorem ok_X5_near {l : Launch} (hl0 : l.stackTraces = false) {D : va_G} {cy : Nat → ClassId} {ad : Nat → Nat} (hap : sAp ad) (X : sX) (σ : sM) (v1 : Int32) (v2 : Int32) (v3 : Int32) {r : Int32} {σ' : sM} (hf : f_X5_near v1 v2 v3 σ = some (r, σ')) : sMet l yX5_near (sWs yX5_near cX5_near 4 (some .int)) 2 50 0 0 D cy ad X σ [.ref (ad 44), .int v1, .int v2, .int v3] (.inr (some (.int r))) X σ' := by
  refine sMet_of (by decide +kernel) (Nat.le_of_ble_eq_true rfl) hap hl0 ?_
  intro p e s m args below meth c ls B hr htab hl h
  exact k_X5_near_0 B hr _ _ _ _  hf _ _ _ h hl
set_option maxHeartbeats 4000000 in
set_option maxRecDepth 100000 in
theorem k_X5_open_30 {p : Program} {l : Launch} {e : Env} {s : State} {m : MethodId} {args : Array Value} {below : List Frame} {meth : Method} {c : Code} {D : va_G} {cy : Nat → ClassId} {ad : Nat → Nat} {X : sX} {r : Int32} {σ' : sM} (B : sB p l s m meth c args cX5_open 7 RX5 D cy ad) (hr : meth.sig.returnType = (some .int)) (v1 : Int32) (v2 : Int32) (v3 : Int32) (v4 : Int32) (v5 : Int32) (v6 : Int32) (vs1 : Int32) (σ : sM) (hf : b_X5_open_30 v1 v2 v3 v4 v5 v6 vs1 σ = some (r, σ')) : sGo p l e { frames := 3, cells := 0, slots := 0, locals := 68 } s m args below meth c D cy ad X 7 (sQ below args s 0 0 D cy ad (.inr (some (.int r))) X σ') σ 30 [(0, .ref (ad 44)), (1, .int v1), (2, .int v2), (3, .int v3), (4, .int v4), (5, .int v5), (6, .int v6)] [.int vs1, .ref (ad 44)] := by
  replace hf : (wthn (f_X5_refused vs1 σ) (fun vr6 σ6 => if vr6 = 0 then (chk (inb v1 4) (stl (va_up σ6 48 (upd (σ6 48) (v1).toNatClampNeg (vp_nar .boolean (1 : Int32)))) (fun σ9 => chk (inb v1 4) (stl (va_up σ9 49 (upd (σ9 49) (v1).toNatClampNeg v2)) (fun σ11 => chk (inb v1 4) (stl (va_up σ11 50 (upd (σ11 50) (v1).toNatClampNeg v3)) (fun σ13 => chk (inb v1 4) (stl (va_up σ13 52 (upd (σ13 52) (v1).toNatClampNeg (vp_nar .boolean v4))) (fun σ15 => chk (inb v1 4) (stl (va_up σ15 51 (upd (σ15 51) (v1).toNatClampNeg v5)) (fun σ17 => chk (inb v1 4) (stl (va_up σ17 53 (upd (σ17 53) (v1).toNatClampNeg (vp_nar .boolean v6))) (fun σ19 => chk (inb v1 4) (stl (va_up σ19 54 (upd (σ19 54) (v1).toNatClampNeg (0 : Int32))) (fun σ21 => rthn (f_X5_manyOf v1 σ21) (fun vr22 => some (vr22, σ21))))))))))))))))) else (some ((0 : Int32), σ6)))) = some (r, σ') := hf
  intro H locs ls h hl
  have hx := B.1
  have hb := B.2.1
  obtain ⟨vr6, σ6, hq6, hf⟩ := wthn_some hf
  refine sRetC1 (g_runV (k := 44) (T := TX5) (N := 21) B h (ok_X5_refused B.2.2.2.2.2.2.2.2 B.2.2.2.2.2.2.1 _ _ vs1 hq6) cw_X5_95 ⟨Nat.le_of_ble_eq_true rfl, Nat.le_of_ble_eq_true rfl⟩ (by decide) (M_row _) rfl rfl hl.1.symm rfl (Nat.le_of_ble_eq_true rfl) dX5_open_30 ⟨Nat.zero_le _, Nat.zero_le _⟩) h (fun H locs h => ?_)
  refine lv_if_eq (tgt := 38) hx hb dX5_open_33 (by decide) (fun c7 => ?_) (fun c7 => ?_)
  · rw [if_pos c7] at hf
    refine lv_aload_n hx hb dX5_open_38 rfl (lv_at hl 0 rfl) ?_
    refine g_get B h 44 (by decide) (C := RX5) (T := TX5) (N := 21) (M_row _) rfl hin_X5 3 (by decide) hw829 rfl rfl dX5_open_39 ?_
    refine lv_iload_n hx hb dX5_open_42 rfl (lv_at hl 1 rfl) ?_
    refine lv_iconst (v := (1 : Int32)) hx hb dX5_open_43 (by decide) ?_
    obtain ⟨c8, hf⟩ := chk_some hf
    refine g_zast B h 48 (by decide) (n := 4) (fun _ => rfl) (inb_in c8) dX5_open_44 (fun H locs h => ?_)
    obtain ⟨σ9, e9, hf⟩ := stl_some hf
    rw [← e9] at h
    refine lv_aload_n hx hb dX5_open_45 rfl (lv_at hl 0 rfl) ?_
    refine g_get B h 44 (by decide) (C := RX5) (T := TX5) (N := 21) (M_row _) rfl hin_X5 4 (by decide) hw830 rfl rfl dX5_open_46 ?_
    refine lv_iload_n hx hb dX5_open_49 rfl (lv_at hl 1 rfl) ?_
    refine lv_iload_n hx hb dX5_open_50 rfl (lv_at hl 2 rfl) ?_
    obtain ⟨c10, hf⟩ := chk_some hf
    refine g_iast B h 49 (by decide) (n := 4) (fun _ => rfl) (inb_in c10) dX5_open_51 (fun H locs h => ?_)
    obtain ⟨σ11, e11, hf⟩ := stl_some hf
    rw [← e11] at h
    refine lv_aload_n hx hb dX5_open_52 rfl (lv_at hl 0 rfl) ?_
    refine g_get B h 44 (by decide) (C := RX5) (T := TX5) (N := 21) (M_row _) rfl hin_X5 5 (by decide) hw831 rfl rfl dX5_open_53 ?_
    refine lv_iload_n hx hb dX5_open_56 rfl (lv_at hl 1 rfl) ?_
    refine lv_iload_n hx hb dX5_open_57 rfl (lv_at hl 3 rfl) ?_
    obtain ⟨c12, hf⟩ := chk_some hf
    refine g_iast B h 50 (by decide) (n := 4) (fun _ => rfl) (inb_in c12) dX5_open_58 (fun H locs h => ?_)
    obtain ⟨σ13, e13, hf⟩ := stl_some hf
    rw [← e13] at h
    refine lv_aload_n hx hb dX5_open_59 rfl (lv_at hl 0 rfl) ?_
    refine g_get B h 44 (by decide) (C := RX5) (T := TX5) (N := 21) (M_row _) rfl hin_X5 7 (by decide) hw833 rfl rfl dX5_open_60 ?_
    refine lv_iload_n hx hb dX5_open_63 rfl (lv_at hl 1 rfl) ?_
    refine lv_iload hx hb dX5_open_64 (lv_at hl 4 rfl) ?_
    obtain ⟨c14, hf⟩ := chk_some hf
    refine g_zast B h 52 (by decide) (n := 4) (fun _ => rfl) (inb_in c14) dX5_open_66 (fun H locs h => ?_)
    obtain ⟨σ15, e15, hf⟩ := stl_some hf
    rw [← e15] at h
    refine lv_aload_n hx hb dX5_open_67 rfl (lv_at hl 0 rfl) ?_
    refine g_get B h 44 (by decide) (C := RX5) (T := TX5) (N := 21) (M_row _) rfl hin_X5 6 (by decide) hw832 rfl rfl dX5_open_68 ?_
    refine lv_iload_n hx hb dX5_open_71 rfl (lv_at hl 1 rfl) ?_
    refine lv_iload hx hb dX5_open_72 (lv_at hl 5 rfl) ?_
    obtain ⟨c16, hf⟩ := chk_some hf
    refine g_iast B h 51 (by decide) (n := 4) (fun _ => rfl) (inb_in c16) dX5_open_74 (fun H locs h => ?_)
    obtain ⟨σ17, e17, hf⟩ := stl_some hf
    rw [← e17] at h
    refine lv_aload_n hx hb dX5_open_75 rfl (lv_at hl 0 rfl) ?_
    refine g_get B h 44 (by decide) (C := RX5) (T := TX5) (N := 21) (M_row _) rfl hin_X5 8 (by decide) hw834 rfl rfl dX5_open_76 ?_
    refine lv_iload_n hx hb dX5_open_79 rfl (lv_at hl 1 rfl) ?_
    refine lv_iload hx hb dX5_open_80 (lv_at hl 6 rfl) ?_
    obtain ⟨c18, hf⟩ := chk_some hf
    refine g_zast B h 53 (by decide) (n := 4) (fun _ => rfl) (inb_in c18) dX5_open_82 (fun H locs h => ?_)
    obtain ⟨σ19, e19, hf⟩ := stl_some hf
    rw [← e19] at h
    refine lv_aload_n hx hb dX5_open_83 rfl (lv_at hl 0 rfl) ?_
    refine g_get B h 44 (by decide) (C := RX5) (T := TX5) (N := 21) (M_row _) rfl hin_X5 9 (by decide) hw835 rfl rfl dX5_open_84 ?_
    refine lv_iload_n hx hb dX5_open_87 rfl (lv_at hl 1 rfl) ?_
    refine lv_iconst (v := (0 : Int32)) hx hb dX5_open_88 (by decide) ?_
    obtain ⟨c20, hf⟩ := chk_some hf
    refine g_iast B h 54 (by decide) (n := 4) (fun _ => rfl) (inb_in c20) dX5_open_89 (fun H locs h => ?_)
    obtain ⟨σ21, e21, hf⟩ := stl_some hf
    rw [← e21] at h
    refine lv_aload_n hx hb dX5_open_90 rfl (lv_at hl 0 rfl) ?_
    refine lv_iload_n hx hb dX5_open_91 rfl (lv_at hl 1 rfl) ?_
    obtain ⟨vr22, hq22, hf⟩ := rthn_some hf
    refine sRetC1 (g_runV (k := 44) (T := TX5) (N := 21) B h (ok_X5_manyOf B.2.2.2.2.2.2.2.2 B.2.2.2.2.2.2.1 _ _ v1 hq22) cw_X5_129 ⟨Nat.le_of_ble_eq_true rfl, Nat.le_of_ble_eq_true rfl⟩ (by decide) (M_row _) rfl rfl hl.1.symm rfl (Nat.le_of_ble_eq_true rfl) dX5_open_92 ⟨Nat.zero_le _, Nat.zero_le _⟩) h (fun H locs h => ?_)
    obtain ⟨rfl, rfl⟩ := Prod.mk.inj (Option.some.inj hf)
    exact sE_i B hr h dX5_open_95
  · rw [if_neg c7] at hf
    refine lv_iconst (v := (0 : Int32)) hx hb dX5_open_36 (by decide) ?_
    obtain ⟨rfl, rfl⟩ := Prod.mk.inj (Option.some.inj hf)
    exact sE_i B hr h dX5_open_37
set_option maxHeartbeats 4000000 in
set_option maxRecDepth 100000 in
theorem k_X5_open_0 {p : Program} {l : Launch} {e : Env} {s : State} {m : MethodId} {args : Array Value} {below : List Frame} {meth : Method} {c : Code} {D : va_G} {cy : Nat → ClassId} {ad : Nat → Nat} {X : sX} {r : Int32} {σ' : sM} (B : sB p l s m meth c args cX5_open 7 RX5 D cy ad) (hr : meth.sig.returnType = (some .int)) (v1 : Int32) (v2 : Int32) (v3 : Int32) (v4 : Int32) (v5 : Int32) (v6 : Int32) (σ : sM) (hf : f_X5_open v1 v2 v3 v4 v5 v6 σ = some (r, σ')) : sGo p l e { frames := 3, cells := 0, slots := 0, locals := 68 } s m args below meth c D cy ad X 7 (sQ below args s 0 0 D cy ad (.inr (some (.int r))) X σ') σ 0 [(0, .ref (ad 44)), (1, .int v1), (2, .int v2), (3, .int v3), (4, .int v4), (5, .int v5), (6, .int v6)] [] := by
  replace hf : (rthn (f_X5_isView v1 σ) (fun vr1 => if vr1 = 0 then (b_X5_open_30 v1 v2 v3 v4 v5 v6 (1 : Int32) σ) else (rthn (f_X5_isMap v2 σ) (fun vr3 => if vr3 = 0 then (b_X5_open_30 v1 v2 v3 v4 v5 v6 (1 : Int32) σ) else (if v3 ≤ v5 then (b_X5_open_30 v1 v2 v3 v4 v5 v6 (0 : Int32) σ) else (b_X5_open_30 v1 v2 v3 v4 v5 v6 (2 : Int32) σ)))))) = some (r, σ') := hf
  intro H locs ls h hl
  have hx := B.1
  have hb := B.2.1
  refine lv_aload_n hx hb dX5_open_0 rfl (lv_at hl 0 rfl) ?_
  refine lv_iload_n hx hb dX5_open_1 rfl (lv_at hl 1 rfl) ?_
  obtain ⟨vr1, hq1, hf⟩ := rthn_some hf
  refine sRetC1 (g_runS B h (ok_X5_isView B.2.2.2.2.2.2.2.2 B.2.2.2.2.2.2.1 _ _ v1 hq1) cw_X5_126 ⟨Nat.le_of_ble_eq_true rfl, Nat.le_of_ble_eq_true rfl⟩ rfl hl.1.symm rfl (Nat.le_of_ble_eq_true rfl) dX5_open_2 ⟨Nat.zero_le _, Nat.zero_le _⟩) h (fun H locs h => ?_)
  refine lv_if_eq (tgt := 15) hx hb dX5_open_5 (by decide) (fun c2 => ?_) (fun c2 => ?_)
  · rw [if_pos c2] at hf
    refine lv_iconst (v := (1 : Int32)) hx hb dX5_open_15 (by decide) ?_
    refine lv_goto (tgt := 30) hx hb dX5_open_16 (by decide) ?_
    exact k_X5_open_30 B hr  _ _ _ _ _ _ _ _ hf _ _ _ h (lv_sub hl [0, 1, 2, 3, 4, 5, 6] rfl)
  · rw [if_neg c2] at hf
    refine lv_iload_n hx hb dX5_open_8 rfl (lv_at hl 2 rfl) ?_
    obtain ⟨vr3, hq3, hf⟩ := rthn_some hf
    refine sRetC1 (g_runS B h (ok_X5_isMap B.2.2.2.2.2.2.2.2 B.2.2.2.2.2.2.1 _ _ v2 hq3) cw_X5_87 ⟨Nat.le_of_ble_eq_true rfl, Nat.le_of_ble_eq_true rfl⟩ rfl hl.1.symm rfl (Nat.le_of_ble_eq_true rfl) dX5_open_9 ⟨Nat.zero_le _, Nat.zero_le _⟩) h (fun H locs h => ?_)
    refine lv_if_ne (tgt := 19) hx hb dX5_open_12 (by decide) (fun c4 => ?_) (fun c4 => ?_)
    · rw [if_neg c4] at hf
      refine lv_iload hx hb dX5_open_19 (lv_at hl 5 rfl) ?_
      refine lv_iload_n hx hb dX5_open_21 rfl (lv_at hl 3 rfl) ?_
      refine lv_icmp_ge (tgt := 29) hx hb dX5_open_22 (by decide) (fun c5 => ?_) (fun c5 => ?_)
      · rw [if_pos c5] at hf
        refine lv_iconst (v := (0 : Int32)) hx hb dX5_open_29 (by decide) ?_
        exact k_X5_open_30 B hr  _ _ _ _ _ _ _ _ hf _ _ _ h (lv_sub hl [0, 1, 2, 3, 4, 5, 6] rfl)
      · rw [if_neg c5] at hf
        refine lv_iconst (v := (2 : Int32)) hx hb dX5_open_25 (by decide) ?_
        refine lv_goto (tgt := 30) hx hb dX5_open_26 (by decide) ?_
        exact k_X5_open_30 B hr  _ _ _ _ _ _ _ _ hf _ _ _ h (lv_sub hl [0, 1, 2, 3, 4, 5, 6] rfl)
    · rw [if_pos c4] at hf
      refine lv_iconst (v := (1 : Int32)) hx hb dX5_open_15 (by decide) ?_
      refine lv_goto (tgt := 30) hx hb dX5_open_16 (by decide) ?_
      exact k_X5_open_30 B hr  _ _ _ _ _ _ _ _ hf _ _ _ h (lv_sub hl [0, 1, 2, 3, 4, 5, 6] rfl)
set_option maxRecDepth 100000 in
theorem ok_X5_open {l : Launch} (hl0 : l.stackTraces = false) {D : va_G} {cy : Nat → ClassId} {ad : Nat → Nat} (hap : sAp ad) (X : sX) (σ : sM) (v1 : Int32) (v2 : Int32) (v3 : Int32) (v4 : Int32) (v5 : Int32) (v6 : Int32) {r : Int32} {σ' : sM} (hf : f_X5_open v1 v2 v3 v4 v5 v6 σ = some (r, σ')) : sMet l yX5_open (sWs yX5_open cX5_open 7 (some .int)) 3 68 0 0 D cy ad X σ [.ref (ad 44), .int v1, .int v2, .int v3, .int v4, .int v5, .int v6] (.inr (some (.int r))) X σ' := by
  refine sMet_of (by decide +kernel) (Nat.le_of_ble_eq_true rfl) hap hl0 ?_
  intro p e s m args below meth c ls B hr htab hl h
  exact k_X5_open_0 B hr _ _ _ _ _ _ _  hf _ _ _ h hl
set_option maxHeartbeats 4000000 in
set_option maxRecDepth 100000 in
theorem k_X5_opposite_93 {p : Program} {l : Launch} {e : Env} {s : State} {m : MethodId} {args : Array Value} {below : List Frame} {meth : Method} {c : Code} {D : va_G} {cy : Nat → ClassId} {ad : Nat → Nat} {X : sX} {r : Int32} {σ' : sM} (B : sB p l s m meth c args cX5_opposite 6 RX5 D cy ad) (hr : meth.sig.returnType = (some .int)) {K56 : Int32 → Int32 → Int32 → sM → Option (Int32 × sM)} (hK56 : ∀ (v2 : Int32) (v3 : Int32) (v4 : Int32) (σ : sM), K56 v2 v3 v4 σ = some (r, σ') → sGo p l e { frames := 3, cells := 0, slots := 0, locals := 72 } s m args below meth c D cy ad X 6 (sQ below args s 0 0 D cy ad (.inr (some (.int r))) X σ') σ 56 [(0, .ref (ad 44)), (2, .int v2), (3, .int v3), (4, .int v4)] []) (v2 : Int32) (v3 : Int32) (v4 : Int32) (v5 : Int32) (vs1 : Int32) (vs2 : Int32) (σ : sM) (hf : b_X5_opposite_93 K56 v2 v3 v4 v5 vs1 vs2 σ = some (r, σ')) : sGo p l e { frames := 3, cells := 0, slots := 0, locals := 72 } s m args below meth c D cy ad X 6 (sQ below args s 0 0 D cy ad (.inr (some (.int r))) X σ') σ 93 [(0, .ref (ad 44)), (2, .int v2), (3, .int v3), (4, .int v4), (5, .int v5)] [.int vs2, .int vs1, .ref (ad 44)] := by
  replace hf : (chk (inb v4 60) (if 0 ≤ v5 then (chk (inb (((60 : Int32) * v2) + v5) 180) (wthn (f_X5_adds vs1 vs2 (σ 59 (v4).toNatClampNeg) (σ 46 ((((60 : Int32) * v2) + v5)).toNatClampNeg) σ) (fun _ σ21 => K56 v2 v3 (v4 + 1) σ21))) else (wthn (f_X5_adds vs1 vs2 (σ 59 (v4).toNatClampNeg) (0 : Int32) σ) (fun _ σ22 => K56 v2 v3 (v4 + 1) σ22)))) = some (r, σ') := hf
  intro H locs ls h hl
  have hx := B.1
  have hb := B.2.1
  refine lv_aload_n hx hb dX5_opposite_93 rfl (lv_at hl 0 rfl) ?_
  refine g_get B h 44 (by decide) (C := RX5) (T := TX5) (N := 21) (M_row _) rfl hin_X5 14 (by decide) hw840 rfl rfl dX5_opposite_94 ?_
  refine lv_iload hx hb dX5_opposite_97 (lv_at hl 3 rfl) ?_
  obtain ⟨c18, hf⟩ := chk_some hf
  refine g_iald B h 59 (by decide) (n := 60) (fun _ => rfl) (inb_in c18) dX5_opposite_99 ?_
  refine lv_iload hx hb dX5_opposite_100 (lv_at hl 4 rfl) ?_
  refine lv_if_ge (tgt := 109) hx hb dX5_opposite_102 (by decide) (fun c19 => ?_) (fun c19 => ?_)
  · rw [if_pos c19] at hf
    refine lv_aload_n hx hb dX5_opposite_109 rfl (lv_at hl 0 rfl) ?_
    refine g_get B h 44 (by decide) (C := RX5) (T := TX5) (N := 21) (M_row _) rfl hin_X5 1 (by decide) hw827 rfl rfl dX5_opposite_110 ?_
    refine lv_bipush (v := (60 : Int32)) hx hb dX5_opposite_113 (by decide) ?_
    refine lv_iload_n hx hb dX5_opposite_115 rfl (lv_at hl 1 rfl) ?_
    refine lv_imul hx hb dX5_opposite_116 ?_
    refine lv_iload hx hb dX5_opposite_117 (lv_at hl 4 rfl) ?_
    refine lv_iadd hx hb dX5_opposite_119 ?_
    obtain ⟨c20, hf⟩ := chk_some hf
    refine g_iald B h 46 (by decide) (n := 180) (fun _ => rfl) (inb_in c20) dX5_opposite_120 ?_
    obtain ⟨vr21, σ21, hq21, hf⟩ := wthn_some hf
    refine sRetC0 (g_runV (k := 44) (T := TX5) (N := 21) B h (ok_X5_adds B.2.2.2.2.2.2.2.2 B.2.2.2.2.2.2.1 _ _ vs1 vs2 (σ 59 (v4).toNatClampNeg) (σ 46 ((((60 : Int32) * v2) + v5)).toNatClampNeg) hq21) cw_X5_139 ⟨Nat.le_of_ble_eq_true rfl, Nat.le_of_ble_eq_true rfl⟩ (by decide) (M_row _) rfl rfl hl.1.symm rfl (Nat.le_of_ble_eq_true rfl) dX5_opposite_121 ⟨Nat.zero_le _, Nat.zero_le _⟩) h (fun H locs h => ?_)
    refine lv_iinc (v := (v4 + 1)) (lv' := [(4, .int (v4 + 1)), (0, .ref (ad 44)), (2, .int v2), (3, .int v3), (5, .int v5)]) hx hb dX5_opposite_124 hl (k := 3) rfl rfl (by decide) rfl (fun ls hl => ?_)
    refine lv_goto (tgt := 56) hx hb dX5_opposite_127 (by decide) ?_
    exact hK56 _ _ _ _ hf _ _ _ h (lv_sub hl [1, 2, 3, 0] rfl)
  · rw [if_neg c19] at hf
    refine lv_iconst (v := (0 : Int32)) hx hb dX5_opposite_105 (by decide) ?_
    refine lv_goto (tgt := 121) hx hb dX5_opposite_106 (by decide) ?_
    obtain ⟨vr22, σ22, hq22, hf⟩ := wthn_some hf
    refine sRetC0 (g_runV (k := 44) (T := TX5) (N := 21) B h (ok_X5_adds B.2.2.2.2.2.2.2.2 B.2.2.2.2.2.2.1 _ _ vs1 vs2 (σ 59 (v4).toNatClampNeg) (0 : Int32) hq22) cw_X5_139 ⟨Nat.le_of_ble_eq_true rfl, Nat.le_of_ble_eq_true rfl⟩ (by decide) (M_row _) rfl rfl hl.1.symm rfl (Nat.le_of_ble_eq_true rfl) dX5_opposite_121 ⟨Nat.zero_le _, Nat.zero_le _⟩) h (fun H locs h => ?_)
    refine lv_iinc (v := (v4 + 1)) (lv' := [(4, .int (v4 + 1)), (0, .ref (ad 44)), (2, .int v2), (3, .int v3), (5, .int v5)]) hx hb dX5_opposite_124 hl (k := 3) rfl rfl (by decide) rfl (fun ls hl => ?_)
    refine lv_goto (tgt := 56) hx hb dX5_opposite_127 (by decide) ?_
    exact hK56 _ _ _ _ hf _ _ _ h (lv_sub hl [1, 2, 3, 0] rfl)
set_option maxHeartbeats 4000000 in
set_option maxRecDepth 100000 in
theorem k_X5_opposite_56 {p : Program} {l : Launch} {e : Env} {s : State} {m : MethodId} {args : Array Value} {below : List Frame} {meth : Method} {c : Code} {D : va_G} {cy : Nat → ClassId} {ad : Nat → Nat} {X : sX} {r : Int32} {σ' : sM} (B : sB p l s m meth c args cX5_opposite 6 RX5 D cy ad) (hr : meth.sig.returnType = (some .int)) : ∀ (n : Nat) (v2 : Int32) (v3 : Int32) (v4 : Int32) (σ : sM), b_X5_opposite_56 n v2 v3 v4 σ = some (r, σ') → sGo p l e { frames := 3, cells := 0, slots := 0, locals := 72 } s m args below meth c D cy ad X 6 (sQ below args s 0 0 D cy ad (.inr (some (.int r))) X σ') σ 56 [(0, .ref (ad 44)), (2, .int v2), (3, .int v3), (4, .int v4)] [] := by
  intro n
  induction n with
  | zero =>
    intro v2 v3 v4 σ hf
    exact nomatch (show none = some (r, σ') from hf)
  | succ n ih =>
    intro v2 v3 v4 σ hf
    replace hf : (if (σ 44 15) ≤ v4 then (chk (inb v3 3) (some ((σ 58 (v3).toNatClampNeg), σ))) else (chk (inb v4 60) (rthn (f_X5_placeOf v2 (σ 59 (v4).toNatClampNeg) σ) (fun vr16 => if 0 ≤ vr16 then (b_X5_opposite_93 (b_X5_opposite_56 n) v2 v3 v4 vr16 v3 (112 : Int32) σ) else (b_X5_opposite_93 (b_X5_opposite_56 n) v2 v3 v4 vr16 v3 (114 : Int32) σ))))) = some (r, σ') := hf
    intro H locs ls h hl
    have hx := B.1
    have hb := B.2.1
    refine lv_iload hx hb dX5_opposite_56 (lv_at hl 3 rfl) ?_
    refine lv_aload_n hx hb dX5_opposite_58 rfl (lv_at hl 0 rfl) ?_
    refine g_get B h 44 (by decide) (C := RX5) (T := TX5) (N := 21) (M_row _) rfl hin_X5 15 (by decide) hw841 rfl rfl dX5_opposite_59 ?_
    refine lv_icmp_ge (tgt := 130) hx hb dX5_opposite_62 (by decide) (fun c13 => ?_) (fun c13 => ?_)
    · rw [if_pos c13] at hf
      refine lv_aload_n hx hb dX5_opposite_130 rfl (lv_at hl 0 rfl) ?_
      refine g_get B h 44 (by decide) (C := RX5) (T := TX5) (N := 21) (M_row _) rfl hin_X5 13 (by decide) hw839 rfl rfl dX5_opposite_131 ?_
      refine lv_iload_n hx hb dX5_opposite_134 rfl (lv_at hl 2 rfl) ?_
      obtain ⟨c14, hf⟩ := chk_some hf
      refine g_iald B h 58 (by decide) (n := 3) (fun _ => rfl) (inb_in c14) dX5_opposite_135 ?_
      obtain ⟨rfl, rfl⟩ := Prod.mk.inj (Option.some.inj hf)
      exact sE_i B hr h dX5_opposite_136
    · rw [if_neg c13] at hf
      refine lv_aload_n hx hb dX5_opposite_65 rfl (lv_at hl 0 rfl) ?_
      refine lv_iload_n hx hb dX5_opposite_66 rfl (lv_at hl 1 rfl) ?_
      refine lv_aload_n hx hb dX5_opposite_67 rfl (lv_at hl 0 rfl) ?_
      refine g_get B h 44 (by decide) (C := RX5) (T := TX5) (N := 21) (M_row _) rfl hin_X5 14 (by decide) hw840 rfl rfl dX5_opposite_68 ?_
      refine lv_iload hx hb dX5_opposite_71 (lv_at hl 3 rfl) ?_
      obtain ⟨c15, hf⟩ := chk_some hf
      refine g_iald B h 59 (by decide) (n := 60) (fun _ => rfl) (inb_in c15) dX5_opposite_73 ?_
      obtain ⟨vr16, hq16, hf⟩ := rthn_some hf
      refine sRetC1 (g_runV (k := 44) (T := TX5) (N := 21) B h (ok_X5_placeOf B.2.2.2.2.2.2.2.2 B.2.2.2.2.2.2.1 _ _ v2 (σ 59 (v4).toNatClampNeg) hq16) cw_X5_68 ⟨Nat.le_of_ble_eq_true rfl, Nat.le_of_ble_eq_true rfl⟩ (by decide) (M_row _) rfl rfl hl.1.symm rfl (Nat.le_of_ble_eq_true rfl) dX5_opposite_74 ⟨Nat.zero_le _, Nat.zero_le _⟩) h (fun H locs h => ?_)
      refine lv_istore (lv' := [(5, .int vr16), (0, .ref (ad 44)), (2, .int v2), (3, .int v3), (4, .int v4)]) hx hb dX5_opposite_77 hl (by decide) rfl (fun ls hl => ?_)
      refine lv_aload_n hx hb dX5_opposite_79 rfl (lv_at hl 1 rfl) ?_
      refine lv_iload_n hx hb dX5_opposite_80 rfl (lv_at hl 3 rfl) ?_
      refine lv_iload hx hb dX5_opposite_81 (lv_at hl 0 rfl) ?_
      refine lv_if_ge (tgt := 91) hx hb dX5_opposite_83 (by decide) (fun c17 => ?_) (fun c17 => ?_)
      · rw [if_pos c17] at hf
        refine lv_bipush (v := (112 : Int32)) hx hb dX5_opposite_91 (by decide) ?_
        exact k_X5_opposite_93 B hr ih _ _ _ _ _ _ _ hf _ _ _ h (lv_sub hl [1, 2, 3, 4, 0] rfl)
      · rw [if_neg c17] at hf
        refine lv_bipush (v := (114 : Int32)) hx hb dX5_opposite_86 (by decide) ?_
        refine lv_goto (tgt := 93) hx hb dX5_opposite_88 (by decide) ?_
        exact k_X5_opposite_93 B hr ih _ _ _ _ _ _ _ hf _ _ _ h (lv_sub hl [1, 2, 3, 4, 0] rfl)
set_option maxHeartbeats 4000000 in
set_option maxRecDepth 100000 in
theorem k_X5_opposite_27 {p : Program} {l : Launch} {e : Env} {s : State} {m : MethodId} {args : Array Value} {below : List Frame} {meth : Method} {c : Code} {D : va_G} {cy : Nat → ClassId} {ad : Nat → Nat} {X : sX} {r : Int32} {σ' : sM} (B : sB p l s m meth c args cX5_opposite 6 RX5 D cy ad) (hr : meth.sig.returnType = (some .int)) (v1 : Int32) (v2 : Int32) (v3 : Int32) (vs1 : Int32) (σ : sM) (hf : b_X5_opposite_27 v1 v2 v3 vs1 σ = some (r, σ')) : sGo p l e { frames := 3, cells := 0, slots := 0, locals := 72 } s m args below meth c D cy ad X 6 (sQ below args s 0 0 D cy ad (.inr (some (.int r))) X σ') σ 27 [(0, .ref (ad 44)), (1, .int v1), (2, .int v2), (3, .int v3)] [.int vs1, .ref (ad 44)] := by
  replace hf : (wthn (f_X5_refused vs1 σ) (fun vr7 σ7 => if vr7 = 0 then (stl (va_up σ7 44 (upd (σ7 44) 15 (0 : Int32))) (fun σ9 => wthn (f_X5_gathers v1 (-1 : Int32) σ9) (fun _ σ10 => chk (inb v3 3) (stl (va_up σ10 58 (upd (σ10 58) (v3).toNatClampNeg (0 : Int32))) (fun σ12 => b_X5_opposite_56 FU v2 v3 (0 : Int32) σ12))))) else (some ((0 : Int32), σ7)))) = some (r, σ') := hf
  intro H locs ls h hl
  have hx := B.1
  have hb := B.2.1
  obtain ⟨vr7, σ7, hq7, hf⟩ := wthn_some hf
  refine sRetC1 (g_runV (k := 44) (T := TX5) (N := 21) B h (ok_X5_refused B.2.2.2.2.2.2.2.2 B.2.2.2.2.2.2.1 _ _ vs1 hq7) cw_X5_95 ⟨Nat.le_of_ble_eq_true rfl, Nat.le_of_ble_eq_true rfl⟩ (by decide) (M_row _) rfl rfl hl.1.symm rfl (Nat.le_of_ble_eq_true rfl) dX5_opposite_27 ⟨Nat.zero_le _, Nat.zero_le _⟩) h (fun H locs h => ?_)
  refine lv_if_eq (tgt := 35) hx hb dX5_opposite_30 (by decide) (fun c8 => ?_) (fun c8 => ?_)
  · rw [if_pos c8] at hf
    refine lv_aload_n hx hb dX5_opposite_35 rfl (lv_at hl 0 rfl) ?_
    refine lv_iconst (v := (0 : Int32)) hx hb dX5_opposite_36 (by decide) ?_
    refine g_put B h 44 (by decide) (C := RX5) (T := TX5) (N := 21) (M_row _) rfl hin_X5 tyX5 tyX5_ok nmX5 15 (by decide) hw841 rfl rfl rfl rfl (upd (σ7 44) 15 (0 : Int32)) (M_put15 _ _) (Nat.le_of_ble_eq_true rfl) dX5_opposite_37 (fun H locs h => ?_)
    obtain ⟨σ9, e9, hf⟩ := stl_some hf
    rw [← e9] at h
    refine lv_aload_n hx hb dX5_opposite_40 rfl (lv_at hl 0 rfl) ?_
    refine lv_iload_n hx hb dX5_opposite_41 rfl (lv_at hl 1 rfl) ?_
    refine lv_iconst (v := (-1 : Int32)) hx hb dX5_opposite_42 (by decide) ?_
    obtain ⟨vr10, σ10, hq10, hf⟩ := wthn_some hf
    refine sRetC0 (g_runV (k := 44) (T := TX5) (N := 21) B h (ok_X5_gathers B.2.2.2.2.2.2.2.2 B.2.2.2.2.2.2.1 _ _ v1 (-1 : Int32) hq10) cw_X5_146 ⟨Nat.le_of_ble_eq_true rfl, Nat.le_of_ble_eq_true rfl⟩ (by decide) (M_row _) rfl rfl hl.1.symm rfl (Nat.le_of_ble_eq_true rfl) dX5_opposite_43 ⟨Nat.zero_le _, Nat.zero_le _⟩) h (fun H locs h => ?_)
    refine lv_aload_n hx hb dX5_opposite_46 rfl (lv_at hl 0 rfl) ?_
    refine g_get B h 44 (by decide) (C := RX5) (T := TX5) (N := 21) (M_row _) rfl hin_X5 13 (by decide) hw839 rfl rfl dX5_opposite_47 ?_
    refine lv_iload_n hx hb dX5_opposite_50 rfl (lv_at hl 3 rfl) ?_
    refine lv_iconst (v := (0 : Int32)) hx hb dX5_opposite_51 (by decide) ?_
    obtain ⟨c11, hf⟩ := chk_some hf
    refine g_iast B h 58 (by decide) (n := 3) (fun _ => rfl) (inb_in c11) dX5_opposite_52 (fun H locs h => ?_)
    obtain ⟨σ12, e12, hf⟩ := stl_some hf
    rw [← e12] at h
    refine lv_iconst (v := (0 : Int32)) hx hb dX5_opposite_53 (by decide) ?_
    refine lv_istore (lv' := [(4, .int (0 : Int32)), (0, .ref (ad 44)), (1, .int v1), (2, .int v2), (3, .int v3)]) hx hb dX5_opposite_54 hl (by decide) rfl (fun ls hl => ?_)
    exact k_X5_opposite_56 B hr  _ _ _ _ _ hf _ _ _ h (lv_sub hl [1, 3, 4, 0] rfl)
  · rw [if_neg c8] at hf
    refine lv_iconst (v := (0 : Int32)) hx hb dX5_opposite_33 (by decide) ?_
    obtain ⟨rfl, rfl⟩ := Prod.mk.inj (Option.some.inj hf)
    exact sE_i B hr h dX5_opposite_34
set_option maxHeartbeats 4000000 in
set_option maxRecDepth 100000 in
theorem k_X5_opposite_0 {p : Program} {l : Launch} {e : Env} {s : State} {m : MethodId} {args : Array Value} {below : List Frame} {meth : Method} {c : Code} {D : va_G} {cy : Nat → ClassId} {ad : Nat → Nat} {X : sX} {r : Int32} {σ' : sM} (B : sB p l s m meth c args cX5_opposite 6 RX5 D cy ad) (hr : meth.sig.returnType = (some .int)) (v1 : Int32) (v2 : Int32) (v3 : Int32) (σ : sM) (hf : f_X5_opposite v1 v2 v3 σ = some (r, σ')) : sGo p l e { frames := 3, cells := 0, slots := 0, locals := 72 } s m args below meth c D cy ad X 6 (sQ below args s 0 0 D cy ad (.inr (some (.int r))) X σ') σ 0 [(0, .ref (ad 44)), (1, .int v1), (2, .int v2), (3, .int v3)] [] := by
  replace hf : (rthn (f_X5_isHistory v1 σ) (fun vr1 => if vr1 = 0 then (b_X5_opposite_27 v1 v2 v3 (1 : Int32) σ) else (rthn (f_X5_isMap v2 σ) (fun vr3 => if vr3 = 0 then (b_X5_opposite_27 v1 v2 v3 (1 : Int32) σ) else (rthn (f_X5_isHistory v3 σ) (fun vr5 => if vr5 = 0 then (b_X5_opposite_27 v1 v2 v3 (1 : Int32) σ) else (b_X5_opposite_27 v1 v2 v3 (0 : Int32) σ))))))) = some (r, σ') := hf
  intro H locs ls h hl
  have hx := B.1
  have hb := B.2.1
  refine lv_aload_n hx hb dX5_opposite_0 rfl (lv_at hl 0 rfl) ?_
  refine lv_iload_n hx hb dX5_opposite_1 rfl (lv_at hl 1 rfl) ?_
  obtain ⟨vr1, hq1, hf⟩ := rthn_some hf
  refine sRetC1 (g_runS B h (ok_X5_isHistory B.2.2.2.2.2.2.2.2 B.2.2.2.2.2.2.1 _ _ v1 hq1) cw_X5_136 ⟨Nat.le_of_ble_eq_true rfl, Nat.le_of_ble_eq_true rfl⟩ rfl hl.1.symm rfl (Nat.le_of_ble_eq_true rfl) dX5_opposite_2 ⟨Nat.zero_le _, Nat.zero_le _⟩) h (fun H locs h => ?_)
  refine lv_if_eq (tgt := 22) hx hb dX5_opposite_5 (by decide) (fun c2 => ?_) (fun c2 => ?_)
  · rw [if_pos c2] at hf
    refine lv_iconst (v := (1 : Int32)) hx hb dX5_opposite_22 (by decide) ?_
    refine lv_goto (tgt := 27) hx hb dX5_opposite_23 (by decide) ?_
    exact k_X5_opposite_27 B hr  _ _ _ _ _ hf _ _ _ h (lv_sub hl [0, 1, 2, 3] rfl)
  · rw [if_neg c2] at hf
    refine lv_iload_n hx hb dX5_opposite_8 rfl (lv_at hl 2 rfl) ?_
    obtain ⟨vr3, hq3, hf⟩ := rthn_some hf
    refine sRetC1 (g_runS B h (ok_X5_isMap B.2.2.2.2.2.2.2.2 B.2.2.2.2.2.2.1 _ _ v2 hq3) cw_X5_87 ⟨Nat.le_of_ble_eq_true rfl, Nat.le_of_ble_eq_true rfl⟩ rfl hl.1.symm rfl (Nat.le_of_ble_eq_true rfl) dX5_opposite_9 ⟨Nat.zero_le _, Nat.zero_le _⟩) h (fun H locs h => ?_)
    refine lv_if_eq (tgt := 22) hx hb dX5_opposite_12 (by decide) (fun c4 => ?_) (fun c4 => ?_)
    · rw [if_pos c4] at hf
      refine lv_iconst (v := (1 : Int32)) hx hb dX5_opposite_22 (by decide) ?_
      refine lv_goto (tgt := 27) hx hb dX5_opposite_23 (by decide) ?_
      exact k_X5_opposite_27 B hr  _ _ _ _ _ hf _ _ _ h (lv_sub hl [0, 1, 2, 3] rfl)
    · rw [if_neg c4] at hf
      refine lv_iload_n hx hb dX5_opposite_15 rfl (lv_at hl 3 rfl) ?_
      obtain ⟨vr5, hq5, hf⟩ := rthn_some hf
      refine sRetC1 (g_runS B h (ok_X5_isHistory B.2.2.2.2.2.2.2.2 B.2.2.2.2.2.2.1 _ _ v3 hq5) cw_X5_136 ⟨Nat.le_of_ble_eq_true rfl, Nat.le_of_ble_eq_true rfl⟩ rfl hl.1.symm rfl (Nat.le_of_ble_eq_true rfl) dX5_opposite_16 ⟨Nat.zero_le _, Nat.zero_le _⟩) h (fun H locs h => ?_)
      refine lv_if_ne (tgt := 26) hx hb dX5_opposite_19 (by decide) (fun c6 => ?_) (fun c6 => ?_)
      · rw [if_neg c6] at hf
        refine lv_iconst (v := (0 : Int32)) hx hb dX5_opposite_26 (by decide) ?_
        exact k_X5_opposite_27 B hr  _ _ _ _ _ hf _ _ _ h (lv_sub hl [0, 1, 2, 3] rfl)
      · rw [if_pos c6] at hf
        refine lv_iconst (v := (1 : Int32)) hx hb dX5_opposite_22 (by decide) ?_
        refine lv_goto (tgt := 27) hx hb dX5_opposite_23 (by decide) ?_
        exact k_X5_opposite_27 B hr  _ _ _ _ _ hf _ _ _ h (lv_sub hl [0, 1, 2, 3] rfl)
set_option maxRecDepth 100000 in
theorem ok_X5_opposite {l : Launch} (hl0 : l.stackTraces = false) {D : va_G} {cy : Nat → ClassId} {ad : Nat → Nat} (hap : sAp ad) (X : sX) (σ : sM) (v1 : Int32) (v2 : Int32) (v3 : Int32) {r : Int32} {σ' : sM} (hf : f_X5_opposite v1 v2 v3 σ = some (r, σ')) : sMet l yX5_opposite (sWs yX5_opposite cX5_opposite 6 (some .int)) 3 72 0 0 D cy ad X σ [.ref (ad 44), .int v1, .int v2, .int v3] (.inr (some (.int r))) X σ' := by
  refine sMet_of (by decide +kernel) (Nat.le_of_ble_eq_true rfl) hap hl0 ?_
  intro p e s m args below meth c ls B hr htab hl h
  exact k_X5_opposite_0 B hr _ _ _ _  hf _ _ _ h hl
set_option maxHeartbeats 4000000 in
set_option maxRecDepth 100000 in
theorem k_X5_play_47 {p : Program} {l : Launch} {e : Env} {s : State} {m : MethodId} {args : Array Value} {below : List Frame} {meth : Method} {c : Code} {D : va_G} {cy : Nat → ClassId} {ad : Nat → Nat} {X : sX} {r : Int32} {σ' : sM} (B : sB p l s m meth c args cX5_play 5 RX5 D cy ad) (hr : meth.sig.returnType = (some .int)) : ∀ (n : Nat) (v1 : Int32) (v2 : Int32) (v3 : Int32) (v4 : Int32) (σ : sM), b_X5_play_47 n v1 v2 v3 v4 σ = some (r, σ') → sGo p l e { frames := 4, cells := 0, slots := 0, locals := 95 } s m args below meth c D cy ad X 5 (sQ below args s 0 0 D cy ad (.inr (some (.int r))) X σ') σ 47 [(0, .ref (ad 44)), (1, .int v1), (2, .int v2), (3, .int v3), (4, .int v4)] [] := by
  intro n
  induction n with
  | zero =>
    intro v1 v2 v3 v4 σ hf
    exact nomatch (show none = some (r, σ') from hf)
  | succ n ih =>
    intro v1 v2 v3 v4 σ hf
    replace hf : (chk (inb v1 3) (if (σ 58 (v1).toNatClampNeg) ≤ v4 then (some (v3, σ)) else (wthn (f_X5_does v2 (((30 : Int32) * v1) + v4) σ) (fun vr17 σ17 => if vr17 = 0 then (b_X5_play_47 n v1 v2 (v3 + (0 : Int32)) (v4 + 1) σ17) else (b_X5_play_47 n v1 v2 (v3 + (1 : Int32)) (v4 + 1) σ17))))) = some (r, σ') := hf
    intro H locs ls h hl
    have hx := B.1
    have hb := B.2.1
    refine lv_iload hx hb dX5_play_47 (lv_at hl 4 rfl) ?_
    refine lv_aload_n hx hb dX5_play_49 rfl (lv_at hl 0 rfl) ?_
    refine g_get B h 44 (by decide) (C := RX5) (T := TX5) (N := 21) (M_row _) rfl hin_X5 13 (by decide) hw839 rfl rfl dX5_play_50 ?_
    refine lv_iload_n hx hb dX5_play_53 rfl (lv_at hl 1 rfl) ?_
    obtain ⟨c15, hf⟩ := chk_some hf
    refine g_iald B h 58 (by decide) (n := 3) (fun _ => rfl) (inb_in c15) dX5_play_54 ?_
    refine lv_icmp_ge (tgt := 87) hx hb dX5_play_55 (by decide) (fun c16 => ?_) (fun c16 => ?_)
    · rw [if_pos c16] at hf
      refine lv_iload_n hx hb dX5_play_87 rfl (lv_at hl 3 rfl) ?_
      obtain ⟨rfl, rfl⟩ := Prod.mk.inj (Option.some.inj hf)
      exact sE_i B hr h dX5_play_88
    · rw [if_neg c16] at hf
      refine lv_iload_n hx hb dX5_play_58 rfl (lv_at hl 3 rfl) ?_
      refine lv_aload_n hx hb dX5_play_59 rfl (lv_at hl 0 rfl) ?_
      refine lv_iload_n hx hb dX5_play_60 rfl (lv_at hl 2 rfl) ?_
      refine lv_bipush (v := (30 : Int32)) hx hb dX5_play_61 (by decide) ?_
      refine lv_iload_n hx hb dX5_play_63 rfl (lv_at hl 1 rfl) ?_
      refine lv_imul hx hb dX5_play_64 ?_
      refine lv_iload hx hb dX5_play_65 (lv_at hl 4 rfl) ?_
      refine lv_iadd hx hb dX5_play_67 ?_
      obtain ⟨vr17, σ17, hq17, hf⟩ := wthn_some hf
      refine sRetC1 (g_runV (k := 44) (T := TX5) (N := 21) B h (ok_X5_does B.2.2.2.2.2.2.2.2 B.2.2.2.2.2.2.1 _ _ v2 (((30 : Int32) * v1) + v4) hq17) cw_X5_152 ⟨Nat.le_of_ble_eq_true rfl, Nat.le_of_ble_eq_true rfl⟩ (by decide) (M_row _) rfl rfl hl.1.symm rfl (Nat.le_of_ble_eq_true rfl) dX5_play_68 ⟨Nat.zero_le _, Nat.zero_le _⟩) h (fun H locs h => ?_)
      refine lv_if_eq (tgt := 78) hx hb dX5_play_71 (by decide) (fun c18 => ?_) (fun c18 => ?_)
      · rw [if_pos c18] at hf
        refine lv_iconst (v := (0 : Int32)) hx hb dX5_play_78 (by decide) ?_
        refine lv_iadd hx hb dX5_play_79 ?_
        refine lv_istore_n (lv' := [(3, .int (v3 + (0 : Int32))), (0, .ref (ad 44)), (1, .int v1), (2, .int v2), (4, .int v4)]) hx hb dX5_play_80 rfl hl (by decide) rfl (fun ls hl => ?_)
        refine lv_iinc (v := (v4 + 1)) (lv' := [(4, .int (v4 + 1)), (3, .int (v3 + (0 : Int32))), (0, .ref (ad 44)), (1, .int v1), (2, .int v2)]) hx hb dX5_play_81 hl (k := 4) rfl rfl (by decide) rfl (fun ls hl => ?_)
        refine lv_goto (tgt := 47) hx hb dX5_play_84 (by decide) ?_
        exact ih _ _ _ _ _ hf _ _ _ h (lv_sub hl [2, 3, 4, 1, 0] rfl)
      · rw [if_neg c18] at hf
        refine lv_iconst (v := (1 : Int32)) hx hb dX5_play_74 (by decide) ?_
        refine lv_goto (tgt := 79) hx hb dX5_play_75 (by decide) ?_
        refine lv_iadd hx hb dX5_play_79 ?_
        refine lv_istore_n (lv' := [(3, .int (v3 + (1 : Int32))), (0, .ref (ad 44)), (1, .int v1), (2, .int v2), (4, .int v4)]) hx hb dX5_play_80 rfl hl (by decide) rfl (fun ls hl => ?_)
        refine lv_iinc (v := (v4 + 1)) (lv' := [(4, .int (v4 + 1)), (3, .int (v3 + (1 : Int32))), (0, .ref (ad 44)), (1, .int v1), (2, .int v2)]) hx hb dX5_play_81 hl (k := 4) rfl rfl (by decide) rfl (fun ls hl => ?_)
        refine lv_goto (tgt := 47) hx hb dX5_play_84 (by decide) ?_
        exact ih _ _ _ _ _ hf _ _ _ h (lv_sub hl [2, 3, 4, 1, 0] rfl)
set_option maxHeartbeats 4000000 in
set_option maxRecDepth 100000 in
theorem k_X5_play_0 {p : Program} {l : Launch} {e : Env} {s : State} {m : MethodId} {args : Array Value} {below : List Frame} {meth : Method} {c : Code} {D : va_G} {cy : Nat → ClassId} {ad : Nat → Nat} {X : sX} {r : Int32} {σ' : sM} (B : sB p l s m meth c args cX5_play 5 RX5 D cy ad) (hr : meth.sig.returnType = (some .int)) (v1 : Int32) (v2 : Int32) (σ : sM) (hf : f_X5_play v1 v2 σ = some (r, σ')) : sGo p l e { frames := 4, cells := 0, slots := 0, locals := 95 } s m args below meth c D cy ad X 5 (sQ below args s 0 0 D cy ad (.inr (some (.int r))) X σ') σ 0 [(0, .ref (ad 44)), (1, .int v1), (2, .int v2)] [] := by
  replace hf : (rthn (f_X5_isHistory v1 σ) (fun vr1 => if vr1 = 0 then (wthn (f_X5_refused (1 : Int32) σ) (fun vr3 σ3 => if vr3 = 0 then (b_X5_play_47 FU v1 v2 (0 : Int32) (0 : Int32) σ3) else (some ((0 : Int32), σ3)))) else (rthn (f_X5_isMap v2 σ) (fun vr5 => if vr5 = 0 then (wthn (f_X5_refused (1 : Int32) σ) (fun vr13 σ13 => if vr13 = 0 then (b_X5_play_47 FU v1 v2 (0 : Int32) (0 : Int32) σ13) else (some ((0 : Int32), σ13)))) else (wthn (f_X5_isTooMuch v1 v1 v2 σ) (fun vr7 σ7 => if vr7 = 0 then (wthn (f_X5_refused (0 : Int32) σ7) (fun vr9 σ9 => if vr9 = 0 then (b_X5_play_47 FU v1 v2 (0 : Int32) (0 : Int32) σ9) else (some ((0 : Int32), σ9)))) else (wthn (f_X5_refused (2 : Int32) σ7) (fun vr11 σ11 => if vr11 = 0 then (b_X5_play_47 FU v1 v2 (0 : Int32) (0 : Int32) σ11) else (some ((0 : Int32), σ11)))))))))) = some (r, σ') := hf
  intro H locs ls h hl
  have hx := B.1
  have hb := B.2.1
  refine lv_aload_n hx hb dX5_play_0 rfl (lv_at hl 0 rfl) ?_
  refine lv_iload_n hx hb dX5_play_1 rfl (lv_at hl 1 rfl) ?_
  obtain ⟨vr1, hq1, hf⟩ := rthn_some hf
  refine sRetC1 (g_runS B h (ok_X5_isHistory B.2.2.2.2.2.2.2.2 B.2.2.2.2.2.2.1 _ _ v1 hq1) cw_X5_136 ⟨Nat.le_of_ble_eq_true rfl, Nat.le_of_ble_eq_true rfl⟩ rfl hl.1.symm rfl (Nat.le_of_ble_eq_true rfl) dX5_play_2 ⟨Nat.zero_le _, Nat.zero_le _⟩) h (fun H locs h => ?_)
  refine lv_if_eq (tgt := 15) hx hb dX5_play_5 (by decide) (fun c2 => ?_) (fun c2 => ?_)
  · rw [if_pos c2] at hf
    refine lv_iconst (v := (1 : Int32)) hx hb dX5_play_15 (by decide) ?_
    refine lv_goto (tgt := 34) hx hb dX5_play_16 (by decide) ?_
    obtain ⟨vr3, σ3, hq3, hf⟩ := wthn_some hf
    refine sRetC1 (g_runV (k := 44) (T := TX5) (N := 21) B h (ok_X5_refused B.2.2.2.2.2.2.2.2 B.2.2.2.2.2.2.1 _ _ (1 : Int32) hq3) cw_X5_95 ⟨Nat.le_of_ble_eq_true rfl, Nat.le_of_ble_eq_true rfl⟩ (by decide) (M_row _) rfl rfl hl.1.symm rfl (Nat.le_of_ble_eq_true rfl) dX5_play_34 ⟨Nat.zero_le _, Nat.zero_le _⟩) h (fun H locs h => ?_)
    refine lv_if_eq (tgt := 42) hx hb dX5_play_37 (by decide) (fun c4 => ?_) (fun c4 => ?_)
    · rw [if_pos c4] at hf
      refine lv_iconst (v := (0 : Int32)) hx hb dX5_play_42 (by decide) ?_
      refine lv_istore_n (lv' := [(3, .int (0 : Int32)), (0, .ref (ad 44)), (1, .int v1), (2, .int v2)]) hx hb dX5_play_43 rfl hl (by decide) rfl (fun ls hl => ?_)
      refine lv_iconst (v := (0 : Int32)) hx hb dX5_play_44 (by decide) ?_
      refine lv_istore (lv' := [(4, .int (0 : Int32)), (3, .int (0 : Int32)), (0, .ref (ad 44)), (1, .int v1), (2, .int v2)]) hx hb dX5_play_45 hl (by decide) rfl (fun ls hl => ?_)
      exact k_X5_play_47 B hr  _ _ _ _ _ _ hf _ _ _ h (lv_sub hl [2, 3, 4, 1, 0] rfl)
    · rw [if_neg c4] at hf
      refine lv_iconst (v := (0 : Int32)) hx hb dX5_play_40 (by decide) ?_
      obtain ⟨rfl, rfl⟩ := Prod.mk.inj (Option.some.inj hf)
      exact sE_i B hr h dX5_play_41
  · rw [if_neg c2] at hf
    refine lv_iload_n hx hb dX5_play_8 rfl (lv_at hl 2 rfl) ?_
    obtain ⟨vr5, hq5, hf⟩ := rthn_some hf
    refine sRetC1 (g_runS B h (ok_X5_isMap B.2.2.2.2.2.2.2.2 B.2.2.2.2.2.2.1 _ _ v2 hq5) cw_X5_87 ⟨Nat.le_of_ble_eq_true rfl, Nat.le_of_ble_eq_true rfl⟩ rfl hl.1.symm rfl (Nat.le_of_ble_eq_true rfl) dX5_play_9 ⟨Nat.zero_le _, Nat.zero_le _⟩) h (fun H locs h => ?_)
    refine lv_if_ne (tgt := 19) hx hb dX5_play_12 (by decide) (fun c6 => ?_) (fun c6 => ?_)
    · rw [if_neg c6] at hf
      refine lv_aload_n hx hb dX5_play_19 rfl (lv_at hl 0 rfl) ?_
      refine lv_iload_n hx hb dX5_play_20 rfl (lv_at hl 1 rfl) ?_
      refine lv_iload_n hx hb dX5_play_21 rfl (lv_at hl 1 rfl) ?_
      refine lv_iload_n hx hb dX5_play_22 rfl (lv_at hl 2 rfl) ?_
      obtain ⟨vr7, σ7, hq7, hf⟩ := wthn_some hf
      refine sRetC1 (g_runV (k := 44) (T := TX5) (N := 21) B h (ok_X5_isTooMuch B.2.2.2.2.2.2.2.2 B.2.2.2.2.2.2.1 _ _ v1 v1 v2 hq7) cw_X5_149 ⟨Nat.le_of_ble_eq_true rfl, Nat.le_of_ble_eq_true rfl⟩ (by decide) (M_row _) rfl rfl hl.1.symm rfl (Nat.le_of_ble_eq_true rfl) dX5_play_23 ⟨Nat.zero_le _, Nat.zero_le _⟩) h (fun H locs h => ?_)
      refine lv_if_eq (tgt := 33) hx hb dX5_play_26 (by decide) (fun c8 => ?_) (fun c8 => ?_)
      · rw [if_pos c8] at hf
        refine lv_iconst (v := (0 : Int32)) hx hb dX5_play_33 (by decide) ?_
        obtain ⟨vr9, σ9, hq9, hf⟩ := wthn_some hf
        refine sRetC1 (g_runV (k := 44) (T := TX5) (N := 21) B h (ok_X5_refused B.2.2.2.2.2.2.2.2 B.2.2.2.2.2.2.1 _ _ (0 : Int32) hq9) cw_X5_95 ⟨Nat.le_of_ble_eq_true rfl, Nat.le_of_ble_eq_true rfl⟩ (by decide) (M_row _) rfl rfl hl.1.symm rfl (Nat.le_of_ble_eq_true rfl) dX5_play_34 ⟨Nat.zero_le _, Nat.zero_le _⟩) h (fun H locs h => ?_)
        refine lv_if_eq (tgt := 42) hx hb dX5_play_37 (by decide) (fun c10 => ?_) (fun c10 => ?_)
        · rw [if_pos c10] at hf
          refine lv_iconst (v := (0 : Int32)) hx hb dX5_play_42 (by decide) ?_
          refine lv_istore_n (lv' := [(3, .int (0 : Int32)), (0, .ref (ad 44)), (1, .int v1), (2, .int v2)]) hx hb dX5_play_43 rfl hl (by decide) rfl (fun ls hl => ?_)
          refine lv_iconst (v := (0 : Int32)) hx hb dX5_play_44 (by decide) ?_
          refine lv_istore (lv' := [(4, .int (0 : Int32)), (3, .int (0 : Int32)), (0, .ref (ad 44)), (1, .int v1), (2, .int v2)]) hx hb dX5_play_45 hl (by decide) rfl (fun ls hl => ?_)
          exact k_X5_play_47 B hr  _ _ _ _ _ _ hf _ _ _ h (lv_sub hl [2, 3, 4, 1, 0] rfl)
        · rw [if_neg c10] at hf
          refine lv_iconst (v := (0 : Int32)) hx hb dX5_play_40 (by decide) ?_
          obtain ⟨rfl, rfl⟩ := Prod.mk.inj (Option.some.inj hf)
          exact sE_i B hr h dX5_play_41
      · rw [if_neg c8] at hf
        refine lv_iconst (v := (2 : Int32)) hx hb dX5_play_29 (by decide) ?_
        refine lv_goto (tgt := 34) hx hb dX5_play_30 (by decide) ?_
        obtain ⟨vr11, σ11, hq11, hf⟩ := wthn_some hf
        refine sRetC1 (g_runV (k := 44) (T := TX5) (N := 21) B h (ok_X5_refused B.2.2.2.2.2.2.2.2 B.2.2.2.2.2.2.1 _ _ (2 : Int32) hq11) cw_X5_95 ⟨Nat.le_of_ble_eq_true rfl, Nat.le_of_ble_eq_true rfl⟩ (by decide) (M_row _) rfl rfl hl.1.symm rfl (Nat.le_of_ble_eq_true rfl) dX5_play_34 ⟨Nat.zero_le _, Nat.zero_le _⟩) h (fun H locs h => ?_)
        refine lv_if_eq (tgt := 42) hx hb dX5_play_37 (by decide) (fun c12 => ?_) (fun c12 => ?_)
        · rw [if_pos c12] at hf
          refine lv_iconst (v := (0 : Int32)) hx hb dX5_play_42 (by decide) ?_
          refine lv_istore_n (lv' := [(3, .int (0 : Int32)), (0, .ref (ad 44)), (1, .int v1), (2, .int v2)]) hx hb dX5_play_43 rfl hl (by decide) rfl (fun ls hl => ?_)
          refine lv_iconst (v := (0 : Int32)) hx hb dX5_play_44 (by decide) ?_
          refine lv_istore (lv' := [(4, .int (0 : Int32)), (3, .int (0 : Int32)), (0, .ref (ad 44)), (1, .int v1), (2, .int v2)]) hx hb dX5_play_45 hl (by decide) rfl (fun ls hl => ?_)
          exact k_X5_play_47 B hr  _ _ _ _ _ _ hf _ _ _ h (lv_sub hl [2, 3, 4, 1, 0] rfl)
        · rw [if_neg c12] at hf
          refine lv_iconst (v := (0 : Int32)) hx hb dX5_play_40 (by decide) ?_
          obtain ⟨rfl, rfl⟩ := Prod.mk.inj (Option.some.inj hf)
          exact sE_i B hr h dX5_play_41
    · rw [if_pos c6] at hf
      refine lv_iconst (v := (1 : Int32)) hx hb dX5_play_15 (by decide) ?_
      refine lv_goto (tgt := 34) hx hb dX5_play_16 (by decide) ?_
      obtain ⟨vr13, σ13, hq13, hf⟩ := wthn_some hf
      refine sRetC1 (g_runV (k := 44) (T := TX5) (N := 21) B h (ok_X5_refused B.2.2.2.2.2.2.2.2 B.2.2.2.2.2.2.1 _ _ (1 : Int32) hq13) cw_X5_95 ⟨Nat.le_of_ble_eq_true rfl, Nat.le_of_ble_eq_true rfl⟩ (by decide) (M_row _) rfl rfl hl.1.symm rfl (Nat.le_of_ble_eq_true rfl) dX5_play_34 ⟨Nat.zero_le _, Nat.zero_le _⟩) h (fun H locs h => ?_)
      refine lv_if_eq (tgt := 42) hx hb dX5_play_37 (by decide) (fun c14 => ?_) (fun c14 => ?_)
      · rw [if_pos c14] at hf
        refine lv_iconst (v := (0 : Int32)) hx hb dX5_play_42 (by decide) ?_
        refine lv_istore_n (lv' := [(3, .int (0 : Int32)), (0, .ref (ad 44)), (1, .int v1), (2, .int v2)]) hx hb dX5_play_43 rfl hl (by decide) rfl (fun ls hl => ?_)
        refine lv_iconst (v := (0 : Int32)) hx hb dX5_play_44 (by decide) ?_
        refine lv_istore (lv' := [(4, .int (0 : Int32)), (3, .int (0 : Int32)), (0, .ref (ad 44)), (1, .int v1), (2, .int v2)]) hx hb dX5_play_45 hl (by decide) rfl (fun ls hl => ?_)
        exact k_X5_play_47 B hr  _ _ _ _ _ _ hf _ _ _ h (lv_sub hl [2, 3, 4, 1, 0] rfl)
      · rw [if_neg c14] at hf
        refine lv_iconst (v := (0 : Int32)) hx hb dX5_play_40 (by decide) ?_
        obtain ⟨rfl, rfl⟩ := Prod.mk.inj (Option.some.inj hf)
        exact sE_i B hr h dX5_play_41
set_option maxRecDepth 100000 in
theorem ok_X5_play {l : Launch} (hl0 : l.stackTraces = false) {D : va_G} {cy : Nat → ClassId} {ad : Nat → Nat} (hap : sAp ad) (X : sX) (σ : sM) (v1 : Int32) (v2 : Int32) {r : Int32} {σ' : sM} (hf : f_X5_play v1 v2 σ = some (r, σ')) : sMet l yX5_play (sWs yX5_play cX5_play 5 (some .int)) 4 95 0 0 D cy ad X σ [.ref (ad 44), .int v1, .int v2] (.inr (some (.int r))) X σ' := by
  refine sMet_of (by decide +kernel) (Nat.le_of_ble_eq_true rfl) hap hl0 ?_
  intro p e s m args below meth c ls B hr htab hl h
  exact k_X5_play_0 B hr _ _ _  hf _ _ _ h hl
