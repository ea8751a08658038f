set_option maxHeartbeats 4000000 in
set_option maxRecDepth 100000 in
theorem k_X4_viewSize_0 {p : Program} {l : Launch} {e : Env} {s : State} {m : MethodId} {args : Array Value} {below : List Frame} {meth : Method} {c : Code} {D : va_G} {cy : Nat → ClassId} {ad : Nat → Nat} {X : sX} {oo : String ⊕ Int32} {σ' : sM} (B : sB p l s m meth c args cX4_viewSize 2 RX4 D cy ad) (hr : meth.sig.returnType = (some .int)) (htab : ∀ x ∈ c.exceptionTable.toList, False) (v1 : Int32) (σ : sM) (hf : f_X4_viewSize v1 σ = some (oo, σ')) : sGo p l e { frames := 7, cells := (sC (oI oo)), slots := (sS (oI oo)), locals := 121 } s m args below meth c D cy ad X 2 (sQ below args s (sC (oI oo)) (sS (oI oo)) D cy ad (oI oo) X σ') σ 0 [(0, .ref (ad 0)), (1, .int v1)] [] := by
  replace hf : (thn (f_X4_viewAt v1 σ) (fun tr1 σ1 => chk (isVb tr1) (rthn (f_X3_countEntries tr1 σ1) (fun vr3 => some (.inr vr3, σ1))))) = some (oo, σ') := hf
  intro H locs ls h hl
  have hx := B.1
  have hb := B.2.1
  refine lv_aload_n hx hb dX4_viewSize_0 rfl (lv_at hl 0 rfl) ?_
  refine lv_iload_n hx hb dX4_viewSize_1 rfl (lv_at hl 1 rfl) ?_
  rcases thn_cases hf with ⟨E1, σ1, hq1, ho⟩ | ⟨tr1, σ1, hq1, hf⟩
  · cases ho
    have hM := ok_X4_viewAt (D := D) (cy := cy) B.2.2.2.2.2.2.2.2 B.2.2.2.2.2.2.1 X _ v1 hq1
    exact sThrC (g_runV (o := .inl E1) (mc := 1) (ms := 6) (k := 0) (T := TX4) (N := 8) B h hM cw_X4_120 ⟨Nat.le_of_ble_eq_true rfl, Nat.le_of_ble_eq_true rfl⟩ (by decide) (S_row _) rfl rfl hl.1.symm rfl (Nat.le_of_ble_eq_true rfl) dX4_viewSize_2 ⟨Nat.le_of_eq (Nat.zero_add _), Nat.le_of_eq (Nat.zero_add _)⟩) h (fun H locs q ce h hc hv hcl => sE_out B htab h hc hv hcl (Nat.le_of_eq (Nat.zero_add _)) (Nat.le_of_eq (Nat.zero_add _)))
  have hM := ok_X4_viewAt (D := D) (cy := cy) B.2.2.2.2.2.2.2.2 B.2.2.2.2.2.2.1 X _ v1 hq1
  refine sRetC1 (g_runV (o := .inr (some (.ref (ad tr1)))) (mc := 0) (ms := 0) (k := 0) (T := TX4) (N := 8) B h hM cw_X4_120 ⟨Nat.le_of_ble_eq_true rfl, Nat.le_of_ble_eq_true rfl⟩ (by decide) (S_row _) rfl rfl hl.1.symm rfl (Nat.le_of_ble_eq_true rfl) dX4_viewSize_2 ⟨Nat.zero_le _, Nat.zero_le _⟩) h (fun H locs h => ?_)
  obtain ⟨c2, hf⟩ := chk_some hf
  obtain ⟨vr3, hq3, hf⟩ := rthn_some hf
  refine sRetC1 (g_runV (k := tr1) (T := TX3) (N := 6) B h (ok_X3_countEntries B.2.2.2.2.2.2.2.2 B.2.2.2.2.2.2.1 _ _ (isVb_V c2) hq3) cw_X4_130 ⟨Nat.le_of_ble_eq_true rfl, Nat.le_of_ble_eq_true rfl⟩ (V_lt (isVb_V c2)) (V_row (isVb_V c2) _) rfl rfl hl.1.symm rfl (Nat.le_of_ble_eq_true rfl) dX4_viewSize_5 ⟨Nat.zero_le _, Nat.zero_le _⟩) h (fun H locs h => ?_)
  obtain ⟨rfl, rfl⟩ := Prod.mk.inj (Option.some.inj hf)
  exact sE_i B hr h dX4_viewSize_8
set_option maxRecDepth 100000 in
theorem ok_X4_viewSize {l : Launch} (hl0 : l.stackTraces = false) {D : va_G} {cy : Nat → ClassId} {ad : Nat → Nat} (hap : sAp ad) (X : sX) (σ : sM) (v1 : Int32) {oo : String ⊕ Int32} {σ' : sM} (hf : f_X4_viewSize v1 σ = some (oo, σ')) : sMet l yX4_viewSize (sWs yX4_viewSize cX4_viewSize 2 (some .int)) 7 121 (sC (oI oo)) (sS (oI oo)) D cy ad X σ [.ref (ad 0), .int v1] (oI oo) X σ' := by
  refine sMet_of (by decide +kernel) (Nat.le_of_ble_eq_true rfl) hap hl0 ?_
  intro p e s m args below meth c ls B hr htab hl h
  exact k_X4_viewSize_0 B hr htab _ _  hf _ _ _ h hl
