set_option maxHeartbeats 4000000 in
set_option maxRecDepth 100000 in
theorem ok_L_combine {l : Launch} (hl0 : l.stackTraces = false) {D : va_G} {cy : Nat → ClassId} {ad : Nat → Nat} (hap : sAp ad) (X : sX) (σ : sM) (v1 : Int32) (v2 : Int32) (v3 : Int32) {r : Int32} {σ' : sM} {X' : sX} (hf : f_L_combine v1 v2 v3 σ X = some (r, σ', X')) : sMet l yL_combine (sWh yL_combine cL_combine 6 (some .int) [(0, 12, 15, 13), (0, 12, 19, 30), (0, 12, 23, 15)]) 8 183 1 6 D cy ad X σ [.ref (ad 0), .int v1, .int v2, .int v3, .ref (ad 61)] (.inr (some (.int r))) X' σ' := by
  refine sMet_ofH (by decide +kernel) (Nat.le_of_ble_eq_true rfl) hap hl0 ?_
  intro p e s m args below meth c ls B hr htab hl h
  replace hf : (cthn (f_X4_combine v1 v2 v3 σ) (fun E1 σ1 => if E1 = "java/lang/IndexOutOfBoundsException" then (some ((1 : Int32), σ1, X)) else if E1 = "java/lang/IllegalArgumentException" then (some ((2 : Int32), σ1, X)) else if E1 = "java/lang/IllegalStateException" then (some ((3 : Int32), σ1, X)) else none) (fun vr1 σ1 => some ((0 : Int32), σ1, (vp_updL X.1 ((0 : Int32)).toNatClampNeg (vr1.toInt64), X.2)))) = some (r, σ', X') := hf
  have hx := B.1
  have hb := B.2.1
  refine lv_aload hx hb dL_combine_0 (lv_at hl 4 rfl) ?_
  refine lv_iconst (v := (0 : Int32)) hx hb dL_combine_2 (by decide) ?_
  refine lv_aload_n hx hb dL_combine_3 rfl (lv_at hl 0 rfl) ?_
  refine lv_iload_n hx hb dL_combine_4 rfl (lv_at hl 1 rfl) ?_
  refine lv_iload_n hx hb dL_combine_5 rfl (lv_at hl 2 rfl) ?_
  refine lv_iload_n hx hb dL_combine_6 rfl (lv_at hl 3 rfl) ?_
  rcases cthn_cases hf with ⟨E1, σ1, hq1, hf⟩ | ⟨vr1, σ1, hq1, hf⟩
  · have hM := ok_X4_combine (D := D) (cy := cy) B.2.2.2.2.2.2.2.2 B.2.2.2.2.2.2.1 X _ v1 v2 v3 hq1
    refine sThrC (g_runV (o := .inl E1) (mc := 1) (ms := 6) (k := 0) (T := TX4) (N := 8) B h hM cw_L_116 ⟨Nat.le_of_ble_eq_true rfl, Nat.le_of_ble_eq_true rfl⟩ (by decide) (S_row _) rfl rfl hl.1.symm rfl (Nat.le_of_ble_eq_true rfl) dL_combine_7 ⟨Nat.le_of_eq (Nat.zero_add _), Nat.le_of_eq (Nat.zero_add _)⟩) h (fun H locs q ce h hc hv hcl => ?_)
    by_cases e1_0 : E1 = "java/lang/IndexOutOfBoundsException"
    · rw [if_pos e1_0] at hf
      subst e1_0
      refine vx_catch (own := RL) (name := "java/lang/IndexOutOfBoundsException") B.2.2.2.1 [] ⟨0, 12, 15, 13⟩ [⟨0, 12, 19, 30⟩, ⟨0, 12, 23, 15⟩] (by rw [htab]; rfl) (fun z hz => nomatch hz) rfl (by decide) (B.2.2.2.2.1 _ hw343) (va_Nw.use rfl (B.2.2.2.2.2.1.2.2.2.2.1 _ (by decide +kernel))) hc hv hcl ?_
      refine lv_astore (lv' := [(5, .ref q), (0, .ref (ad 0)), (1, .int v1), (2, .int v2), (3, .int v3), (4, .ref (ad 61))]) hx hb dL_combine_15 hl (by decide) rfl (fun ls hl => ?_)
      refine lv_iconst (v := (1 : Int32)) hx hb dL_combine_17 (by decide) ?_
      obtain ⟨rfl, h2⟩ := Prod.mk.inj (Option.some.inj hf); obtain ⟨rfl, rfl⟩ := Prod.mk.inj h2
      refine W.widen (k := 1) (n := 6) (Nat.le_refl _) (Nat.le_refl _) ?_
      exact sE_i B hr h dL_combine_18
    rw [if_neg e1_0] at hf
    by_cases e1_1 : E1 = "java/lang/IllegalArgumentException"
    · rw [if_pos e1_1] at hf
      subst e1_1
      refine vx_catch (own := RL) (name := "java/lang/IllegalArgumentException") B.2.2.2.1 [⟨0, 12, 15, 13⟩] ⟨0, 12, 19, 30⟩ [⟨0, 12, 23, 15⟩] (by rw [htab]; rfl) ((vx_ps B (by decide) hw343 (by decide +kernel) (by decide +kernel) (by decide +kernel) (fun z hz => nomatch hz))) rfl (by decide) (B.2.2.2.2.1 _ hw500) (va_Nw.use rfl (B.2.2.2.2.2.1.2.2.2.2.1 _ (by decide +kernel))) hc hv hcl ?_
      refine lv_astore (lv' := [(5, .ref q), (0, .ref (ad 0)), (1, .int v1), (2, .int v2), (3, .int v3), (4, .ref (ad 61))]) hx hb dL_combine_19 hl (by decide) rfl (fun ls hl => ?_)
      refine lv_iconst (v := (2 : Int32)) hx hb dL_combine_21 (by decide) ?_
      obtain ⟨rfl, h2⟩ := Prod.mk.inj (Option.some.inj hf); obtain ⟨rfl, rfl⟩ := Prod.mk.inj h2
      refine W.widen (k := 1) (n := 6) (Nat.le_refl _) (Nat.le_refl _) ?_
      exact sE_i B hr h dL_combine_22
    rw [if_neg e1_1] at hf
    by_cases e1_2 : E1 = "java/lang/IllegalStateException"
    · rw [if_pos e1_2] at hf
      subst e1_2
      refine vx_catch (own := RL) (name := "java/lang/IllegalStateException") B.2.2.2.1 [⟨0, 12, 15, 13⟩, ⟨0, 12, 19, 30⟩] ⟨0, 12, 23, 15⟩ [] (by rw [htab]; rfl) ((vx_ps B (by decide) hw343 (by decide +kernel) (by decide +kernel) (by decide +kernel) (vx_ps B (by decide) hw500 (by decide +kernel) (by decide +kernel) (by decide +kernel) (fun z hz => nomatch hz)))) rfl (by decide) (B.2.2.2.2.1 _ hw422) (va_Nw.use rfl (B.2.2.2.2.2.1.2.2.2.2.1 _ (by decide +kernel))) hc hv hcl ?_
      refine lv_astore (lv' := [(5, .ref q), (0, .ref (ad 0)), (1, .int v1), (2, .int v2), (3, .int v3), (4, .ref (ad 61))]) hx hb dL_combine_23 hl (by decide) rfl (fun ls hl => ?_)
      refine lv_iconst (v := (3 : Int32)) hx hb dL_combine_25 (by decide) ?_
      obtain ⟨rfl, h2⟩ := Prod.mk.inj (Option.some.inj hf); obtain ⟨rfl, rfl⟩ := Prod.mk.inj h2
      refine W.widen (k := 1) (n := 6) (Nat.le_refl _) (Nat.le_refl _) ?_
      exact sE_i B hr h dL_combine_26
    rw [if_neg e1_2] at hf
    cases hf
  have hM := ok_X4_combine (D := D) (cy := cy) B.2.2.2.2.2.2.2.2 B.2.2.2.2.2.2.1 X _ v1 v2 v3 hq1
  refine sRetC1 (g_runV (o := .inr (some (.int vr1))) (mc := 0) (ms := 0) (k := 0) (T := TX4) (N := 8) B h hM cw_L_116 ⟨Nat.le_of_ble_eq_true rfl, Nat.le_of_ble_eq_true rfl⟩ (by decide) (S_row _) rfl rfl hl.1.symm rfl (Nat.le_of_ble_eq_true rfl) dL_combine_7 ⟨Nat.zero_le _, Nat.zero_le _⟩) h (fun H locs h => ?_)
  refine lv_i2l (v := (vr1.toInt64)) hx hb dL_combine_10 rfl ?_
  refine g_last B h (i := (0 : Int32)) (inb_in (n := 1) (by decide)) dL_combine_11 (fun H locs h => ?_)
  refine lv_goto (tgt := 27) hx hb dL_combine_12 (by decide) ?_
  refine lv_iconst (v := (0 : Int32)) hx hb dL_combine_27 (by decide) ?_
  obtain ⟨rfl, h2⟩ := Prod.mk.inj (Option.some.inj hf); obtain ⟨rfl, rfl⟩ := Prod.mk.inj h2
  refine W.widen (k := 1) (n := 6) (Nat.zero_le _) (Nat.zero_le _) ?_
  exact sE_i B hr h dL_combine_28
set_option maxHeartbeats 4000000 in
set_option maxRecDepth 100000 in
theorem ok_L_cut {l : Launch} (hl0 : l.stackTraces = false) {D : va_G} {cy : Nat → ClassId} {ad : Nat → Nat} (hap : sAp ad) (X : sX) (σ : sM) (v1 : Int32) (v2 : Int32) (v3 : Int32) (v4 : Int32) (v5 : Int32) {r : Int32} {σ' : sM} {X' : sX} (hf : f_L_cut v1 v2 v3 v4 v5 σ X = some (r, σ', X')) : sMet l yL_cut (sWh yL_cut cL_cut 8 (some .int) [(0, 16, 19, 13), (0, 16, 23, 21), (0, 16, 27, 30), (0, 16, 31, 15)]) 8 148 1 6 D cy ad X σ [.ref (ad 0), .int v1, .int v2, .int v3, .int v4, .int v5, .ref (ad 61)] (.inr (some (.int r))) X' σ' := by
  refine sMet_ofH (by decide +kernel) (Nat.le_of_ble_eq_true rfl) hap hl0 ?_
  intro p e s m args below meth c ls B hr htab hl h
  replace hf : (cthn (f_X4_cut v1 v2 v3 v4 v5 σ) (fun E1 σ1 => if E1 = "java/lang/IndexOutOfBoundsException" then (some ((1 : Int32), σ1, X)) else if E1 = "java/util/NoSuchElementException" then (some ((2 : Int32), σ1, X)) else if E1 = "java/lang/IllegalArgumentException" then (some ((3 : Int32), σ1, X)) else if E1 = "java/lang/IllegalStateException" then (some ((4 : Int32), σ1, X)) else none) (fun vr1 σ1 => some ((0 : Int32), σ1, (vp_updL X.1 ((0 : Int32)).toNatClampNeg (vr1.toInt64), X.2)))) = some (r, σ', X') := hf
  have hx := B.1
  have hb := B.2.1
  refine lv_aload hx hb dL_cut_0 (lv_at hl 6 rfl) ?_
  refine lv_iconst (v := (0 : Int32)) hx hb dL_cut_2 (by decide) ?_
  refine lv_aload_n hx hb dL_cut_3 rfl (lv_at hl 0 rfl) ?_
  refine lv_iload_n hx hb dL_cut_4 rfl (lv_at hl 1 rfl) ?_
  refine lv_iload_n hx hb dL_cut_5 rfl (lv_at hl 2 rfl) ?_
  refine lv_iload_n hx hb dL_cut_6 rfl (lv_at hl 3 rfl) ?_
  refine lv_iload hx hb dL_cut_7 (lv_at hl 4 rfl) ?_
  refine lv_iload hx hb dL_cut_9 (lv_at hl 5 rfl) ?_
  rcases cthn_cases hf with ⟨E1, σ1, hq1, hf⟩ | ⟨vr1, σ1, hq1, hf⟩
  · have hM := ok_X4_cut (D := D) (cy := cy) B.2.2.2.2.2.2.2.2 B.2.2.2.2.2.2.1 X _ v1 v2 v3 v4 v5 hq1
    refine sThrC (g_runV (o := .inl E1) (mc := 1) (ms := 6) (k := 0) (T := TX4) (N := 8) B h hM cw_L_68 ⟨Nat.le_of_ble_eq_true rfl, Nat.le_of_ble_eq_true rfl⟩ (by decide) (S_row _) rfl rfl hl.1.symm rfl (Nat.le_of_ble_eq_true rfl) dL_cut_11 ⟨Nat.le_of_eq (Nat.zero_add _), Nat.le_of_eq (Nat.zero_add _)⟩) h (fun H locs q ce h hc hv hcl => ?_)
    by_cases e1_0 : E1 = "java/lang/IndexOutOfBoundsException"
    · rw [if_pos e1_0] at hf
      subst e1_0
      refine vx_catch (own := RL) (name := "java/lang/IndexOutOfBoundsException") B.2.2.2.1 [] ⟨0, 16, 19, 13⟩ [⟨0, 16, 23, 21⟩, ⟨0, 16, 27, 30⟩, ⟨0, 16, 31, 15⟩] (by rw [htab]; rfl) (fun z hz => nomatch hz) rfl (by decide) (B.2.2.2.2.1 _ hw343) (va_Nw.use rfl (B.2.2.2.2.2.1.2.2.2.2.1 _ (by decide +kernel))) hc hv hcl ?_
      refine lv_astore (lv' := [(7, .ref q), (0, .ref (ad 0)), (1, .int v1), (2, .int v2), (3, .int v3), (4, .int v4), (5, .int v5), (6, .ref (ad 61))]) hx hb dL_cut_19 hl (by decide) rfl (fun ls hl => ?_)
      refine lv_iconst (v := (1 : Int32)) hx hb dL_cut_21 (by decide) ?_
      obtain ⟨rfl, h2⟩ := Prod.mk.inj (Option.some.inj hf); obtain ⟨rfl, rfl⟩ := Prod.mk.inj h2
      refine W.widen (k := 1) (n := 6) (Nat.le_refl _) (Nat.le_refl _) ?_
      exact sE_i B hr h dL_cut_22
    rw [if_neg e1_0] at hf
    by_cases e1_1 : E1 = "java/util/NoSuchElementException"
    · rw [if_pos e1_1] at hf
      subst e1_1
      refine vx_catch (own := RL) (name := "java/util/NoSuchElementException") B.2.2.2.1 [⟨0, 16, 19, 13⟩] ⟨0, 16, 23, 21⟩ [⟨0, 16, 27, 30⟩, ⟨0, 16, 31, 15⟩] (by rw [htab]; rfl) ((vx_ps B (by decide) hw343 (by decide +kernel) (by decide +kernel) (by decide +kernel) (fun z hz => nomatch hz))) rfl (by decide) (B.2.2.2.2.1 _ hw468) (va_Nw.use rfl (B.2.2.2.2.2.1.2.2.2.2.1 _ (by decide +kernel))) hc hv hcl ?_
      refine lv_astore (lv' := [(7, .ref q), (0, .ref (ad 0)), (1, .int v1), (2, .int v2), (3, .int v3), (4, .int v4), (5, .int v5), (6, .ref (ad 61))]) hx hb dL_cut_23 hl (by decide) rfl (fun ls hl => ?_)
      refine lv_iconst (v := (2 : Int32)) hx hb dL_cut_25 (by decide) ?_
      obtain ⟨rfl, h2⟩ := Prod.mk.inj (Option.some.inj hf); obtain ⟨rfl, rfl⟩ := Prod.mk.inj h2
      refine W.widen (k := 1) (n := 6) (Nat.le_refl _) (Nat.le_refl _) ?_
      exact sE_i B hr h dL_cut_26
    rw [if_neg e1_1] at hf
    by_cases e1_2 : E1 = "java/lang/IllegalArgumentException"
    · rw [if_pos e1_2] at hf
      subst e1_2
      refine vx_catch (own := RL) (name := "java/lang/IllegalArgumentException") B.2.2.2.1 [⟨0, 16, 19, 13⟩, ⟨0, 16, 23, 21⟩] ⟨0, 16, 27, 30⟩ [⟨0, 16, 31, 15⟩] (by rw [htab]; rfl) ((vx_ps B (by decide) hw343 (by decide +kernel) (by decide +kernel) (by decide +kernel) (vx_ps B (by decide) hw468 (by decide +kernel) (by decide +kernel) (by decide +kernel) (fun z hz => nomatch hz)))) rfl (by decide) (B.2.2.2.2.1 _ hw500) (va_Nw.use rfl (B.2.2.2.2.2.1.2.2.2.2.1 _ (by decide +kernel))) hc hv hcl ?_
      refine lv_astore (lv' := [(7, .ref q), (0, .ref (ad 0)), (1, .int v1), (2, .int v2), (3, .int v3), (4, .int v4), (5, .int v5), (6, .ref (ad 61))]) hx hb dL_cut_27 hl (by decide) rfl (fun ls hl => ?_)
      refine lv_iconst (v := (3 : Int32)) hx hb dL_cut_29 (by decide) ?_
      obtain ⟨rfl, h2⟩ := Prod.mk.inj (Option.some.inj hf); obtain ⟨rfl, rfl⟩ := Prod.mk.inj h2
      refine W.widen (k := 1) (n := 6) (Nat.le_refl _) (Nat.le_refl _) ?_
      exact sE_i B hr h dL_cut_30
    rw [if_neg e1_2] at hf
    by_cases e1_3 : E1 = "java/lang/IllegalStateException"
    · rw [if_pos e1_3] at hf
      subst e1_3
      refine vx_catch (own := RL) (name := "java/lang/IllegalStateException") B.2.2.2.1 [⟨0, 16, 19, 13⟩, ⟨0, 16, 23, 21⟩, ⟨0, 16, 27, 30⟩] ⟨0, 16, 31, 15⟩ [] (by rw [htab]; rfl) ((vx_ps B (by decide) hw343 (by decide +kernel) (by decide +kernel) (by decide +kernel) (vx_ps B (by decide) hw468 (by decide +kernel) (by decide +kernel) (by decide +kernel) (vx_ps B (by decide) hw500 (by decide +kernel) (by decide +kernel) (by decide +kernel) (fun z hz => nomatch hz))))) rfl (by decide) (B.2.2.2.2.1 _ hw422) (va_Nw.use rfl (B.2.2.2.2.2.1.2.2.2.2.1 _ (by decide +kernel))) hc hv hcl ?_
      refine lv_astore (lv' := [(7, .ref q), (0, .ref (ad 0)), (1, .int v1), (2, .int v2), (3, .int v3), (4, .int v4), (5, .int v5), (6, .ref (ad 61))]) hx hb dL_cut_31 hl (by decide) rfl (fun ls hl => ?_)
      refine lv_iconst (v := (4 : Int32)) hx hb dL_cut_33 (by decide) ?_
      obtain ⟨rfl, h2⟩ := Prod.mk.inj (Option.some.inj hf); obtain ⟨rfl, rfl⟩ := Prod.mk.inj h2
      refine W.widen (k := 1) (n := 6) (Nat.le_refl _) (Nat.le_refl _) ?_
      exact sE_i B hr h dL_cut_34
    rw [if_neg e1_3] at hf
    cases hf
  have hM := ok_X4_cut (D := D) (cy := cy) B.2.2.2.2.2.2.2.2 B.2.2.2.2.2.2.1 X _ v1 v2 v3 v4 v5 hq1
  refine sRetC1 (g_runV (o := .inr (some (.int vr1))) (mc := 0) (ms := 0) (k := 0) (T := TX4) (N := 8) B h hM cw_L_68 ⟨Nat.le_of_ble_eq_true rfl, Nat.le_of_ble_eq_true rfl⟩ (by decide) (S_row _) rfl rfl hl.1.symm rfl (Nat.le_of_ble_eq_true rfl) dL_cut_11 ⟨Nat.zero_le _, Nat.zero_le _⟩) h (fun H locs h => ?_)
  refine lv_i2l (v := (vr1.toInt64)) hx hb dL_cut_14 rfl ?_
  refine g_last B h (i := (0 : Int32)) (inb_in (n := 1) (by decide)) dL_cut_15 (fun H locs h => ?_)
  refine lv_goto (tgt := 35) hx hb dL_cut_16 (by decide) ?_
  refine lv_iconst (v := (0 : Int32)) hx hb dL_cut_35 (by decide) ?_
  obtain ⟨rfl, h2⟩ := Prod.mk.inj (Option.some.inj hf); obtain ⟨rfl, rfl⟩ := Prod.mk.inj h2
  refine W.widen (k := 1) (n := 6) (Nat.zero_le _) (Nat.zero_le _) ?_
  exact sE_i B hr h dL_cut_36
set_option maxHeartbeats 4000000 in
set_option maxRecDepth 100000 in
theorem ok_L_drain {l : Launch} (hl0 : l.stackTraces = false) {D : va_G} {cy : Nat → ClassId} {ad : Nat → Nat} (hap : sAp ad) (X : sX) (σ : sM) (v1 : Int32) (v2 : Int32) {r : Int32} {σ' : sM} {X' : sX} (hf : f_L_drain v1 v2 σ X = some (r, σ', X')) : sMet l yL_drain (sWh yL_drain cL_drain 5 (some .int) [(0, 10, 13, 13)]) 8 177 1 6 D cy ad X σ [.ref (ad 0), .int v1, .int v2, .ref (ad 61)] (.inr (some (.int r))) X' σ' := by
  refine sMet_ofH (by decide +kernel) (Nat.le_of_ble_eq_true rfl) hap hl0 ?_
  intro p e s m args below meth c ls B hr htab hl h
  replace hf : (cthn (f_X4_drain v1 v2 σ) (fun E1 σ1 => if E1 = "java/lang/IndexOutOfBoundsException" then (some ((1 : Int32), σ1, X)) else none) (fun vr1 σ1 => some ((0 : Int32), σ1, (vp_updL X.1 ((0 : Int32)).toNatClampNeg (vr1.toInt64), X.2)))) = some (r, σ', X') := hf
  have hx := B.1
  have hb := B.2.1
  refine lv_aload_n hx hb dL_drain_0 rfl (lv_at hl 3 rfl) ?_
  refine lv_iconst (v := (0 : Int32)) hx hb dL_drain_1 (by decide) ?_
  refine lv_aload_n hx hb dL_drain_2 rfl (lv_at hl 0 rfl) ?_
  refine lv_iload_n hx hb dL_drain_3 rfl (lv_at hl 1 rfl) ?_
  refine lv_iload_n hx hb dL_drain_4 rfl (lv_at hl 2 rfl) ?_
  rcases cthn_cases hf with ⟨E1, σ1, hq1, hf⟩ | ⟨vr1, σ1, hq1, hf⟩
  · have hM := ok_X4_drain (D := D) (cy := cy) B.2.2.2.2.2.2.2.2 B.2.2.2.2.2.2.1 X _ v1 v2 hq1
    refine sThrC (g_runV (o := .inl E1) (mc := 1) (ms := 6) (k := 0) (T := TX4) (N := 8) B h hM cw_L_43 ⟨Nat.le_of_ble_eq_true rfl, Nat.le_of_ble_eq_true rfl⟩ (by decide) (S_row _) rfl rfl hl.1.symm rfl (Nat.le_of_ble_eq_true rfl) dL_drain_5 ⟨Nat.le_of_eq (Nat.zero_add _), Nat.le_of_eq (Nat.zero_add _)⟩) h (fun H locs q ce h hc hv hcl => ?_)
    by_cases e1_0 : E1 = "java/lang/IndexOutOfBoundsException"
    · rw [if_pos e1_0] at hf
      subst e1_0
      refine vx_catch (own := RL) (name := "java/lang/IndexOutOfBoundsException") B.2.2.2.1 [] ⟨0, 10, 13, 13⟩ [] (by rw [htab]; rfl) (fun z hz => nomatch hz) rfl (by decide) (B.2.2.2.2.1 _ hw343) (va_Nw.use rfl (B.2.2.2.2.2.1.2.2.2.2.1 _ (by decide +kernel))) hc hv hcl ?_
      refine lv_astore (lv' := [(4, .ref q), (0, .ref (ad 0)), (1, .int v1), (2, .int v2), (3, .ref (ad 61))]) hx hb dL_drain_13 hl (by decide) rfl (fun ls hl => ?_)
      refine lv_iconst (v := (1 : Int32)) hx hb dL_drain_15 (by decide) ?_
      obtain ⟨rfl, h2⟩ := Prod.mk.inj (Option.some.inj hf); obtain ⟨rfl, rfl⟩ := Prod.mk.inj h2
      refine W.widen (k := 1) (n := 6) (Nat.le_refl _) (Nat.le_refl _) ?_
      exact sE_i B hr h dL_drain_16
    rw [if_neg e1_0] at hf
    cases hf
  have hM := ok_X4_drain (D := D) (cy := cy) B.2.2.2.2.2.2.2.2 B.2.2.2.2.2.2.1 X _ v1 v2 hq1
  refine sRetC1 (g_runV (o := .inr (some (.int vr1))) (mc := 0) (ms := 0) (k := 0) (T := TX4) (N := 8) B h hM cw_L_43 ⟨Nat.le_of_ble_eq_true rfl, Nat.le_of_ble_eq_true rfl⟩ (by decide) (S_row _) rfl rfl hl.1.symm rfl (Nat.le_of_ble_eq_true rfl) dL_drain_5 ⟨Nat.zero_le _, Nat.zero_le _⟩) h (fun H locs h => ?_)
  refine lv_i2l (v := (vr1.toInt64)) hx hb dL_drain_8 rfl ?_
  refine g_last B h (i := (0 : Int32)) (inb_in (n := 1) (by decide)) dL_drain_9 (fun H locs h => ?_)
  refine lv_goto (tgt := 17) hx hb dL_drain_10 (by decide) ?_
  refine lv_iconst (v := (0 : Int32)) hx hb dL_drain_17 (by decide) ?_
  obtain ⟨rfl, h2⟩ := Prod.mk.inj (Option.some.inj hf); obtain ⟨rfl, rfl⟩ := Prod.mk.inj h2
  refine W.widen (k := 1) (n := 6) (Nat.zero_le _) (Nat.zero_le _) ?_
  exact sE_i B hr h dL_drain_18
set_option maxHeartbeats 4000000 in
set_option maxRecDepth 100000 in
theorem ok_L_drained {l : Launch} (hl0 : l.stackTraces = false) {D : va_G} {cy : Nat → ClassId} {ad : Nat → Nat} (hap : sAp ad) (X : sX) (σ : sM) (v1 : Int32) {r : Int32} {σ' : sM} {X' : sX} (hf : f_L_drained v1 σ X = some (r, σ', X')) : sMet l yL_drained (sWh yL_drained cL_drained 4 (some .int) [(0, 9, 12, 13)]) 7 121 1 6 D cy ad X σ [.ref (ad 0), .int v1, .ref (ad 61)] (.inr (some (.int r))) X' σ' := by
  refine sMet_ofH (by decide +kernel) (Nat.le_of_ble_eq_true rfl) hap hl0 ?_
  intro p e s m args below meth c ls B hr htab hl h
  replace hf : (cthn (f_X4_drained v1 σ) (fun E1 σ1 => if E1 = "java/lang/IndexOutOfBoundsException" then (some ((1 : Int32), σ1, X)) else none) (fun vr1 σ1 => some ((0 : Int32), σ1, (vp_updL X.1 ((0 : Int32)).toNatClampNeg (vr1.toInt64), X.2)))) = some (r, σ', X') := hf
  have hx := B.1
  have hb := B.2.1
  refine lv_aload_n hx hb dL_drained_0 rfl (lv_at hl 2 rfl) ?_
  refine lv_iconst (v := (0 : Int32)) hx hb dL_drained_1 (by decide) ?_
  refine lv_aload_n hx hb dL_drained_2 rfl (lv_at hl 0 rfl) ?_
  refine lv_iload_n hx hb dL_drained_3 rfl (lv_at hl 1 rfl) ?_
  rcases cthn_cases hf with ⟨E1, σ1, hq1, hf⟩ | ⟨vr1, σ1, hq1, hf⟩
  · have hM := ok_X4_drained (D := D) (cy := cy) B.2.2.2.2.2.2.2.2 B.2.2.2.2.2.2.1 X _ v1 hq1
    refine sThrC (g_runV (o := .inl E1) (mc := 1) (ms := 6) (k := 0) (T := TX4) (N := 8) B h hM cw_L_46 ⟨Nat.le_of_ble_eq_true rfl, Nat.le_of_ble_eq_true rfl⟩ (by decide) (S_row _) rfl rfl hl.1.symm rfl (Nat.le_of_ble_eq_true rfl) dL_drained_4 ⟨Nat.le_of_eq (Nat.zero_add _), Nat.le_of_eq (Nat.zero_add _)⟩) h (fun H locs q ce h hc hv hcl => ?_)
    by_cases e1_0 : E1 = "java/lang/IndexOutOfBoundsException"
    · rw [if_pos e1_0] at hf
      subst e1_0
      refine vx_catch (own := RL) (name := "java/lang/IndexOutOfBoundsException") B.2.2.2.1 [] ⟨0, 9, 12, 13⟩ [] (by rw [htab]; rfl) (fun z hz => nomatch hz) rfl (by decide) (B.2.2.2.2.1 _ hw343) (va_Nw.use rfl (B.2.2.2.2.2.1.2.2.2.2.1 _ (by decide +kernel))) hc hv hcl ?_
      refine lv_astore_n (lv' := [(3, .ref q), (0, .ref (ad 0)), (1, .int v1), (2, .ref (ad 61))]) hx hb dL_drained_12 rfl hl (by decide) rfl (fun ls hl => ?_)
      refine lv_iconst (v := (1 : Int32)) hx hb dL_drained_13 (by decide) ?_
      obtain ⟨rfl, h2⟩ := Prod.mk.inj (Option.some.inj hf); obtain ⟨rfl, rfl⟩ := Prod.mk.inj h2
      refine W.widen (k := 1) (n := 6) (Nat.le_refl _) (Nat.le_refl _) ?_
      exact sE_i B hr h dL_drained_14
    rw [if_neg e1_0] at hf
    cases hf
  have hM := ok_X4_drained (D := D) (cy := cy) B.2.2.2.2.2.2.2.2 B.2.2.2.2.2.2.1 X _ v1 hq1
  refine sRetC1 (g_runV (o := .inr (some (.int vr1))) (mc := 0) (ms := 0) (k := 0) (T := TX4) (N := 8) B h hM cw_L_46 ⟨Nat.le_of_ble_eq_true rfl, Nat.le_of_ble_eq_true rfl⟩ (by decide) (S_row _) rfl rfl hl.1.symm rfl (Nat.le_of_ble_eq_true rfl) dL_drained_4 ⟨Nat.zero_le _, Nat.zero_le _⟩) h (fun H locs h => ?_)
  refine lv_i2l (v := (vr1.toInt64)) hx hb dL_drained_7 rfl ?_
  refine g_last B h (i := (0 : Int32)) (inb_in (n := 1) (by decide)) dL_drained_8 (fun H locs h => ?_)
  refine lv_goto (tgt := 15) hx hb dL_drained_9 (by decide) ?_
  refine lv_iconst (v := (0 : Int32)) hx hb dL_drained_15 (by decide) ?_
  obtain ⟨rfl, h2⟩ := Prod.mk.inj (Option.some.inj hf); obtain ⟨rfl, rfl⟩ := Prod.mk.inj h2
  refine W.widen (k := 1) (n := 6) (Nat.zero_le _) (Nat.zero_le _) ?_
  exact sE_i B hr h dL_drained_16
set_option maxHeartbeats 4000000 in
set_option maxRecDepth 100000 in
theorem ok_L_end {l : Launch} (hl0 : l.stackTraces = false) {D : va_G} {cy : Nat → ClassId} {ad : Nat → Nat} (hap : sAp ad) (X : sX) (σ : sM) (v1 : Int32) (v2 : Int32) {r : Int32} {σ' : sM} {X' : sX} (hf : f_L_end v1 v2 σ X = some (r, σ', X')) : sMet l yL_end (sWh yL_end cL_end 5 (some .int) [(0, 10, 13, 13), (0, 10, 17, 21)]) 8 145 1 6 D cy ad X σ [.ref (ad 0), .int v1, .int v2, .ref (ad 61)] (.inr (some (.int r))) X' σ' := by
  refine sMet_ofH (by decide +kernel) (Nat.le_of_ble_eq_true rfl) hap hl0 ?_
  intro p e s m args below meth c ls B hr htab hl h
  replace hf : (cthn (f_X4_end v1 v2 σ) (fun E1 σ1 => if E1 = "java/lang/IndexOutOfBoundsException" then (some ((1 : Int32), σ1, X)) else if E1 = "java/util/NoSuchElementException" then (some ((2 : Int32), σ1, X)) else none) (fun vr1 σ1 => some ((0 : Int32), σ1, (vp_updL X.1 ((0 : Int32)).toNatClampNeg (vr1.toInt64), X.2)))) = some (r, σ', X') := hf
  have hx := B.1
  have hb := B.2.1
  refine lv_aload_n hx hb dL_end_0 rfl (lv_at hl 3 rfl) ?_
  refine lv_iconst (v := (0 : Int32)) hx hb dL_end_1 (by decide) ?_
  refine lv_aload_n hx hb dL_end_2 rfl (lv_at hl 0 rfl) ?_
  refine lv_iload_n hx hb dL_end_3 rfl (lv_at hl 1 rfl) ?_
  refine lv_iload_n hx hb dL_end_4 rfl (lv_at hl 2 rfl) ?_
  rcases cthn_cases hf with ⟨E1, σ1, hq1, hf⟩ | ⟨vr1, σ1, hq1, hf⟩
  · have hM := ok_X4_end (D := D) (cy := cy) B.2.2.2.2.2.2.2.2 B.2.2.2.2.2.2.1 X _ v1 v2 hq1
    refine sThrC (g_runV (o := .inl E1) (mc := 1) (ms := 6) (k := 0) (T := TX4) (N := 8) B h hM cw_L_32 ⟨Nat.le_of_ble_eq_true rfl, Nat.le_of_ble_eq_true rfl⟩ (by decide) (S_row _) rfl rfl hl.1.symm rfl (Nat.le_of_ble_eq_true rfl) dL_end_5 ⟨Nat.le_of_eq (Nat.zero_add _), Nat.le_of_eq (Nat.zero_add _)⟩) h (fun H locs q ce h hc hv hcl => ?_)
    by_cases e1_0 : E1 = "java/lang/IndexOutOfBoundsException"
    · rw [if_pos e1_0] at hf
      subst e1_0
      refine vx_catch (own := RL) (name := "java/lang/IndexOutOfBoundsException") B.2.2.2.1 [] ⟨0, 10, 13, 13⟩ [⟨0, 10, 17, 21⟩] (by rw [htab]; rfl) (fun z hz => nomatch hz) rfl (by decide) (B.2.2.2.2.1 _ hw343) (va_Nw.use rfl (B.2.2.2.2.2.1.2.2.2.2.1 _ (by decide +kernel))) hc hv hcl ?_
      refine lv_astore (lv' := [(4, .ref q), (0, .ref (ad 0)), (1, .int v1), (2, .int v2), (3, .ref (ad 61))]) hx hb dL_end_13 hl (by decide) rfl (fun ls hl => ?_)
      refine lv_iconst (v := (1 : Int32)) hx hb dL_end_15 (by decide) ?_
      obtain ⟨rfl, h2⟩ := Prod.mk.inj (Option.some.inj hf); obtain ⟨rfl, rfl⟩ := Prod.mk.inj h2
      refine W.widen (k := 1) (n := 6) (Nat.le_refl _) (Nat.le_refl _) ?_
      exact sE_i B hr h dL_end_16
    rw [if_neg e1_0] at hf
    by_cases e1_1 : E1 = "java/util/NoSuchElementException"
    · rw [if_pos e1_1] at hf
      subst e1_1
      refine vx_catch (own := RL) (name := "java/util/NoSuchElementException") B.2.2.2.1 [⟨0, 10, 13, 13⟩] ⟨0, 10, 17, 21⟩ [] (by rw [htab]; rfl) ((vx_ps B (by decide) hw343 (by decide +kernel) (by decide +kernel) (by decide +kernel) (fun z hz => nomatch hz))) rfl (by decide) (B.2.2.2.2.1 _ hw468) (va_Nw.use rfl (B.2.2.2.2.2.1.2.2.2.2.1 _ (by decide +kernel))) hc hv hcl ?_
      refine lv_astore (lv' := [(4, .ref q), (0, .ref (ad 0)), (1, .int v1), (2, .int v2), (3, .ref (ad 61))]) hx hb dL_end_17 hl (by decide) rfl (fun ls hl => ?_)
      refine lv_iconst (v := (2 : Int32)) hx hb dL_end_19 (by decide) ?_
      obtain ⟨rfl, h2⟩ := Prod.mk.inj (Option.some.inj hf); obtain ⟨rfl, rfl⟩ := Prod.mk.inj h2
      refine W.widen (k := 1) (n := 6) (Nat.le_refl _) (Nat.le_refl _) ?_
      exact sE_i B hr h dL_end_20
    rw [if_neg e1_1] at hf
    cases hf
  have hM := ok_X4_end (D := D) (cy := cy) B.2.2.2.2.2.2.2.2 B.2.2.2.2.2.2.1 X _ v1 v2 hq1
  refine sRetC1 (g_runV (o := .inr (some (.int vr1))) (mc := 0) (ms := 0) (k := 0) (T := TX4) (N := 8) B h hM cw_L_32 ⟨Nat.le_of_ble_eq_true rfl, Nat.le_of_ble_eq_true rfl⟩ (by decide) (S_row _) rfl rfl hl.1.symm rfl (Nat.le_of_ble_eq_true rfl) dL_end_5 ⟨Nat.zero_le _, Nat.zero_le _⟩) h (fun H locs h => ?_)
  refine lv_i2l (v := (vr1.toInt64)) hx hb dL_end_8 rfl ?_
  refine g_last B h (i := (0 : Int32)) (inb_in (n := 1) (by decide)) dL_end_9 (fun H locs h => ?_)
  refine lv_goto (tgt := 21) hx hb dL_end_10 (by decide) ?_
  refine lv_iconst (v := (0 : Int32)) hx hb dL_end_21 (by decide) ?_
  obtain ⟨rfl, h2⟩ := Prod.mk.inj (Option.some.inj hf); obtain ⟨rfl, rfl⟩ := Prod.mk.inj h2
  refine W.widen (k := 1) (n := 6) (Nat.zero_le _) (Nat.zero_le _) ?_
  exact sE_i B hr h dL_end_22
set_option maxHeartbeats 4000000 in
set_option maxRecDepth 100000 in
theorem ok_L_forget {l : Launch} (hl0 : l.stackTraces = false) {D : va_G} {cy : Nat → ClassId} {ad : Nat → Nat} (hap : sAp ad) (X : sX) (σ : sM) (v1 : Int32) {r : Int32} {σ' : sM} {X' : sX} (hf : f_L_forget v1 σ X = some (r, σ', X')) : sMet l yL_forget (sWh yL_forget cL_forget 4 (some .int) [(0, 9, 12, 13)]) 8 144 1 6 D cy ad X σ [.ref (ad 0), .int v1, .ref (ad 61)] (.inr (some (.int r))) X' σ' := by
  refine sMet_ofH (by decide +kernel) (Nat.le_of_ble_eq_true rfl) hap hl0 ?_
  intro p e s m args below meth c ls B hr htab hl h
  replace hf : (cthn (f_X4_forget v1 σ) (fun E1 σ1 => if E1 = "java/lang/IndexOutOfBoundsException" then (some ((1 : Int32), σ1, X)) else none) (fun vr1 σ1 => some ((0 : Int32), σ1, (vp_updL X.1 ((0 : Int32)).toNatClampNeg (vr1.toInt64), X.2)))) = some (r, σ', X') := hf
  have hx := B.1
  have hb := B.2.1
  refine lv_aload_n hx hb dL_forget_0 rfl (lv_at hl 2 rfl) ?_
  refine lv_iconst (v := (0 : Int32)) hx hb dL_forget_1 (by decide) ?_
  refine lv_aload_n hx hb dL_forget_2 rfl (lv_at hl 0 rfl) ?_
  refine lv_iload_n hx hb dL_forget_3 rfl (lv_at hl 1 rfl) ?_
  rcases cthn_cases hf with ⟨E1, σ1, hq1, hf⟩ | ⟨vr1, σ1, hq1, hf⟩
  · have hM := ok_X4_forget (D := D) (cy := cy) B.2.2.2.2.2.2.2.2 B.2.2.2.2.2.2.1 X _ v1 hq1
    refine sThrC (g_runV (o := .inl E1) (mc := 1) (ms := 6) (k := 0) (T := TX4) (N := 8) B h hM cw_L_100 ⟨Nat.le_of_ble_eq_true rfl, Nat.le_of_ble_eq_true rfl⟩ (by decide) (S_row _) rfl rfl hl.1.symm rfl (Nat.le_of_ble_eq_true rfl) dL_forget_4 ⟨Nat.le_of_eq (Nat.zero_add _), Nat.le_of_eq (Nat.zero_add _)⟩) h (fun H locs q ce h hc hv hcl => ?_)
    by_cases e1_0 : E1 = "java/lang/IndexOutOfBoundsException"
    · rw [if_pos e1_0] at hf
      subst e1_0
      refine vx_catch (own := RL) (name := "java/lang/IndexOutOfBoundsException") B.2.2.2.1 [] ⟨0, 9, 12, 13⟩ [] (by rw [htab]; rfl) (fun z hz => nomatch hz) rfl (by decide) (B.2.2.2.2.1 _ hw343) (va_Nw.use rfl (B.2.2.2.2.2.1.2.2.2.2.1 _ (by decide +kernel))) hc hv hcl ?_
      refine lv_astore_n (lv' := [(3, .ref q), (0, .ref (ad 0)), (1, .int v1), (2, .ref (ad 61))]) hx hb dL_forget_12 rfl hl (by decide) rfl (fun ls hl => ?_)
      refine lv_iconst (v := (1 : Int32)) hx hb dL_forget_13 (by decide) ?_
      obtain ⟨rfl, h2⟩ := Prod.mk.inj (Option.some.inj hf); obtain ⟨rfl, rfl⟩ := Prod.mk.inj h2
      refine W.widen (k := 1) (n := 6) (Nat.le_refl _) (Nat.le_refl _) ?_
      exact sE_i B hr h dL_forget_14
    rw [if_neg e1_0] at hf
    cases hf
  have hM := ok_X4_forget (D := D) (cy := cy) B.2.2.2.2.2.2.2.2 B.2.2.2.2.2.2.1 X _ v1 hq1
  refine sRetC1 (g_runV (o := .inr (some (.int vr1))) (mc := 0) (ms := 0) (k := 0) (T := TX4) (N := 8) B h hM cw_L_100 ⟨Nat.le_of_ble_eq_true rfl, Nat.le_of_ble_eq_true rfl⟩ (by decide) (S_row _) rfl rfl hl.1.symm rfl (Nat.le_of_ble_eq_true rfl) dL_forget_4 ⟨Nat.zero_le _, Nat.zero_le _⟩) h (fun H locs h => ?_)
  refine lv_i2l (v := (vr1.toInt64)) hx hb dL_forget_7 rfl ?_
  refine g_last B h (i := (0 : Int32)) (inb_in (n := 1) (by decide)) dL_forget_8 (fun H locs h => ?_)
  refine lv_goto (tgt := 15) hx hb dL_forget_9 (by decide) ?_
  refine lv_iconst (v := (0 : Int32)) hx hb dL_forget_15 (by decide) ?_
  obtain ⟨rfl, h2⟩ := Prod.mk.inj (Option.some.inj hf); obtain ⟨rfl, rfl⟩ := Prod.mk.inj h2
  refine W.widen (k := 1) (n := 6) (Nat.zero_le _) (Nat.zero_le _) ?_
  exact sE_i B hr h dL_forget_16
set_option maxHeartbeats 4000000 in
set_option maxRecDepth 100000 in
theorem ok_L_fullShare {l : Launch} (hl0 : l.stackTraces = false) {D : va_G} {cy : Nat → ClassId} {ad : Nat → Nat} (hap : sAp ad) (X : sX) (σ : sM) (v1 : Int32) {r : Int32} {σ' : sM} {X' : sX} (hf : f_L_fullShare v1 σ X = some (r, σ', X')) : sMet l yL_fullShare (sWh yL_fullShare cL_fullShare 4 (some .int) [(0, 9, 12, 13)]) 8 142 1 6 D cy ad X σ [.ref (ad 0), .int v1, .ref (ad 62)] (.inr (some (.int r))) X' σ' := by
  refine sMet_ofH (by decide +kernel) (Nat.le_of_ble_eq_true rfl) hap hl0 ?_
  intro p e s m args below meth c ls B hr htab hl h
  replace hf : (cthn (f_X4_fullShare v1 σ) (fun E1 σ1 => if E1 = "java/lang/IndexOutOfBoundsException" then (some ((1 : Int32), σ1, X)) else none) (fun vr1 σ1 => chk (nn64 (FP.f2d vr1)) (some ((0 : Int32), σ1, (X.1, vf_upd X.2 ((0 : Int32)).toNatClampNeg (FP.f2d vr1)))))) = some (r, σ', X') := hf
  have hx := B.1
  have hb := B.2.1
  refine lv_aload_n hx hb dL_fullShare_0 rfl (lv_at hl 2 rfl) ?_
  refine lv_iconst (v := (0 : Int32)) hx hb dL_fullShare_1 (by decide) ?_
  refine lv_aload_n hx hb dL_fullShare_2 rfl (lv_at hl 0 rfl) ?_
  refine lv_iload_n hx hb dL_fullShare_3 rfl (lv_at hl 1 rfl) ?_
  rcases cthn_cases hf with ⟨E1, σ1, hq1, hf⟩ | ⟨vr1, σ1, hq1, hf⟩
  · have hM := ok_X4_fullShare (D := D) (cy := cy) B.2.2.2.2.2.2.2.2 B.2.2.2.2.2.2.1 X _ v1 hq1
    refine sThrC (g_runV (o := .inl E1) (mc := 1) (ms := 6) (k := 0) (T := TX4) (N := 8) B h hM cw_L_119 ⟨Nat.le_of_ble_eq_true rfl, Nat.le_of_ble_eq_true rfl⟩ (by decide) (S_row _) rfl rfl hl.1.symm rfl (Nat.le_of_ble_eq_true rfl) dL_fullShare_4 ⟨Nat.le_of_eq (Nat.zero_add _), Nat.le_of_eq (Nat.zero_add _)⟩) h (fun H locs q ce h hc hv hcl => ?_)
    by_cases e1_0 : E1 = "java/lang/IndexOutOfBoundsException"
    · rw [if_pos e1_0] at hf
      subst e1_0
      refine vx_catch (own := RL) (name := "java/lang/IndexOutOfBoundsException") B.2.2.2.1 [] ⟨0, 9, 12, 13⟩ [] (by rw [htab]; rfl) (fun z hz => nomatch hz) rfl (by decide) (B.2.2.2.2.1 _ hw343) (va_Nw.use rfl (B.2.2.2.2.2.1.2.2.2.2.1 _ (by decide +kernel))) hc hv hcl ?_
      refine lv_astore_n (lv' := [(3, .ref q), (0, .ref (ad 0)), (1, .int v1), (2, .ref (ad 62))]) hx hb dL_fullShare_12 rfl hl (by decide) rfl (fun ls hl => ?_)
      refine lv_iconst (v := (1 : Int32)) hx hb dL_fullShare_13 (by decide) ?_
      obtain ⟨rfl, h2⟩ := Prod.mk.inj (Option.some.inj hf); obtain ⟨rfl, rfl⟩ := Prod.mk.inj h2
      refine W.widen (k := 1) (n := 6) (Nat.le_refl _) (Nat.le_refl _) ?_
      exact sE_i B hr h dL_fullShare_14
    rw [if_neg e1_0] at hf
    cases hf
  have hM := ok_X4_fullShare (D := D) (cy := cy) B.2.2.2.2.2.2.2.2 B.2.2.2.2.2.2.1 X _ v1 hq1
  refine sRetC1 (g_runV (o := .inr (some (.float vr1))) (mc := 0) (ms := 0) (k := 0) (T := TX4) (N := 8) B h hM cw_L_119 ⟨Nat.le_of_ble_eq_true rfl, Nat.le_of_ble_eq_true rfl⟩ (by decide) (S_row _) rfl rfl hl.1.symm rfl (Nat.le_of_ble_eq_true rfl) dL_fullShare_4 ⟨Nat.zero_le _, Nat.zero_le _⟩) h (fun H locs h => ?_)
  obtain ⟨c2, hf⟩ := chk_some hf
  refine lv_f2d hx hb dL_fullShare_7 (nn64_n c2) ?_
  refine g_dast B h (i := (0 : Int32)) (inb_in (n := 1) (by decide)) dL_fullShare_8 (fun H locs h => ?_)
  refine lv_goto (tgt := 15) hx hb dL_fullShare_9 (by decide) ?_
  refine lv_iconst (v := (0 : Int32)) hx hb dL_fullShare_15 (by decide) ?_
  obtain ⟨rfl, h2⟩ := Prod.mk.inj (Option.some.inj hf); obtain ⟨rfl, rfl⟩ := Prod.mk.inj h2
  refine W.widen (k := 1) (n := 6) (Nat.zero_le _) (Nat.zero_le _) ?_
  exact sE_i B hr h dL_fullShare_16
set_option maxHeartbeats 4000000 in
set_option maxRecDepth 100000 in
theorem ok_L_isLike {l : Launch} (hl0 : l.stackTraces = false) {D : va_G} {cy : Nat → ClassId} {ad : Nat → Nat} (hap : sAp ad) (X : sX) (σ : sM) (v1 : Int32) (v2 : Int32) {r : Int32} {σ' : sM} {X' : sX} (hf : f_L_isLike v1 v2 σ X = some (r, σ', X')) : sMet l yL_isLike (sWh yL_isLike cL_isLike 5 (some .int) [(0, 17, 20, 13)]) 8 144 1 6 D cy ad X σ [.ref (ad 0), .int v1, .int v2, .ref (ad 61)] (.inr (some (.int r))) X' σ' := by
  refine sMet_ofH (by decide +kernel) (Nat.le_of_ble_eq_true rfl) hap hl0 ?_
  intro p e s m args below meth c ls B hr htab hl h
  replace hf : (cthn (f_X4_isLike v1 v2 σ) (fun E1 σ1 => if E1 = "java/lang/IndexOutOfBoundsException" then (some ((1 : Int32), σ1, X)) else none) (fun vr1 σ1 => if vr1 = 0 then (some ((0 : Int32), σ1, (vp_updL X.1 ((0 : Int32)).toNatClampNeg (0 : Int64), X.2))) else (some ((0 : Int32), σ1, (vp_updL X.1 ((0 : Int32)).toNatClampNeg (1 : Int64), X.2))))) = some (r, σ', X') := hf
  have hx := B.1
  have hb := B.2.1
  refine lv_aload_n hx hb dL_isLike_0 rfl (lv_at hl 3 rfl) ?_
  refine lv_iconst (v := (0 : Int32)) hx hb dL_isLike_1 (by decide) ?_
  refine lv_aload_n hx hb dL_isLike_2 rfl (lv_at hl 0 rfl) ?_
  refine lv_iload_n hx hb dL_isLike_3 rfl (lv_at hl 1 rfl) ?_
  refine lv_iload_n hx hb dL_isLike_4 rfl (lv_at hl 2 rfl) ?_
  rcases cthn_cases hf with ⟨E1, σ1, hq1, hf⟩ | ⟨vr1, σ1, hq1, hf⟩
  · have hM := ok_X4_isLike (D := D) (cy := cy) B.2.2.2.2.2.2.2.2 B.2.2.2.2.2.2.1 X _ v1 v2 hq1
    refine sThrC (g_runV (o := .inl E1) (mc := 1) (ms := 6) (k := 0) (T := TX4) (N := 8) B h hM cw_L_60 ⟨Nat.le_of_ble_eq_true rfl, Nat.le_of_ble_eq_true rfl⟩ (by decide) (S_row _) rfl rfl hl.1.symm rfl (Nat.le_of_ble_eq_true rfl) dL_isLike_5 ⟨Nat.le_of_eq (Nat.zero_add _), Nat.le_of_eq (Nat.zero_add _)⟩) h (fun H locs q ce h hc hv hcl => ?_)
    by_cases e1_0 : E1 = "java/lang/IndexOutOfBoundsException"
    · rw [if_pos e1_0] at hf
      subst e1_0
      refine vx_catch (own := RL) (name := "java/lang/IndexOutOfBoundsException") B.2.2.2.1 [] ⟨0, 17, 20, 13⟩ [] (by rw [htab]; rfl) (fun z hz => nomatch hz) rfl (by decide) (B.2.2.2.2.1 _ hw343) (va_Nw.use rfl (B.2.2.2.2.2.1.2.2.2.2.1 _ (by decide +kernel))) hc hv hcl ?_
      refine lv_astore (lv' := [(4, .ref q), (0, .ref (ad 0)), (1, .int v1), (2, .int v2), (3, .ref (ad 61))]) hx hb dL_isLike_20 hl (by decide) rfl (fun ls hl => ?_)
      refine lv_iconst (v := (1 : Int32)) hx hb dL_isLike_22 (by decide) ?_
      obtain ⟨rfl, h2⟩ := Prod.mk.inj (Option.some.inj hf); obtain ⟨rfl, rfl⟩ := Prod.mk.inj h2
      refine W.widen (k := 1) (n := 6) (Nat.le_refl _) (Nat.le_refl _) ?_
      exact sE_i B hr h dL_isLike_23
    rw [if_neg e1_0] at hf
    cases hf
  have hM := ok_X4_isLike (D := D) (cy := cy) B.2.2.2.2.2.2.2.2 B.2.2.2.2.2.2.1 X _ v1 v2 hq1
  refine sRetC1 (g_runV (o := .inr (some (.int vr1))) (mc := 0) (ms := 0) (k := 0) (T := TX4) (N := 8) B h hM cw_L_60 ⟨Nat.le_of_ble_eq_true rfl, Nat.le_of_ble_eq_true rfl⟩ (by decide) (S_row _) rfl rfl hl.1.symm rfl (Nat.le_of_ble_eq_true rfl) dL_isLike_5 ⟨Nat.zero_le _, Nat.zero_le _⟩) h (fun H locs h => ?_)
  refine lv_if_eq (tgt := 15) hx hb dL_isLike_8 (by decide) (fun c2 => ?_) (fun c2 => ?_)
  · rw [if_pos c2] at hf
    refine lv_lconst (v := (0 : Int64)) hx hb dL_isLike_15 (by decide) ?_
    refine g_last B h (i := (0 : Int32)) (inb_in (n := 1) (by decide)) dL_isLike_16 (fun H locs h => ?_)
    refine lv_goto (tgt := 24) hx hb dL_isLike_17 (by decide) ?_
    refine lv_iconst (v := (0 : Int32)) hx hb dL_isLike_24 (by decide) ?_
    obtain ⟨rfl, h2⟩ := Prod.mk.inj (Option.some.inj hf); obtain ⟨rfl, rfl⟩ := Prod.mk.inj h2
    refine W.widen (k := 1) (n := 6) (Nat.zero_le _) (Nat.zero_le _) ?_
    exact sE_i B hr h dL_isLike_25
  · rw [if_neg c2] at hf
    refine lv_lconst (v := (1 : Int64)) hx hb dL_isLike_11 (by decide) ?_
    refine lv_goto (tgt := 16) hx hb dL_isLike_12 (by decide) ?_
    refine g_last B h (i := (0 : Int32)) (inb_in (n := 1) (by decide)) dL_isLike_16 (fun H locs h => ?_)
    refine lv_goto (tgt := 24) hx hb dL_isLike_17 (by decide) ?_
    refine lv_iconst (v := (0 : Int32)) hx hb dL_isLike_24 (by decide) ?_
    obtain ⟨rfl, h2⟩ := Prod.mk.inj (Option.some.inj hf); obtain ⟨rfl, rfl⟩ := Prod.mk.inj h2
    refine W.widen (k := 1) (n := 6) (Nat.zero_le _) (Nat.zero_le _) ?_
    exact sE_i B hr h dL_isLike_25
set_option maxHeartbeats 4000000 in
set_option maxRecDepth 100000 in
theorem ok_L_keyAt {l : Launch} (hl0 : l.stackTraces = false) {D : va_G} {cy : Nat → ClassId} {ad : Nat → Nat} (hap : sAp ad) (X : sX) (σ : sM) (v1 : Int32) (v2 : Int32) (v3 : Int32) {r : Int32} {σ' : sM} {X' : sX} (hf : f_L_keyAt v1 v2 v3 σ X = some (r, σ', X')) : sMet l yL_keyAt (sWh yL_keyAt cL_keyAt 6 (some .int) [(0, 12, 15, 13)]) 8 145 1 6 D cy ad X σ [.ref (ad 0), .int v1, .int v2, .int v3, .ref (ad 61)] (.inr (some (.int r))) X' σ' := by
  refine sMet_ofH (by decide +kernel) (Nat.le_of_ble_eq_true rfl) hap hl0 ?_
  intro p e s m args below meth c ls B hr htab hl h
  replace hf : (cthn (f_X4_keyAt v1 v2 v3 σ) (fun E1 σ1 => if E1 = "java/lang/IndexOutOfBoundsException" then (some ((1 : Int32), σ1, X)) else none) (fun vr1 σ1 => some ((0 : Int32), σ1, (vp_updL X.1 ((0 : Int32)).toNatClampNeg (vr1.toInt64), X.2)))) = some (r, σ', X') := hf
  have hx := B.1
  have hb := B.2.1
  refine lv_aload hx hb dL_keyAt_0 (lv_at hl 4 rfl) ?_
  refine lv_iconst (v := (0 : Int32)) hx hb dL_keyAt_2 (by decide) ?_
  refine lv_aload_n hx hb dL_keyAt_3 rfl (lv_at hl 0 rfl) ?_
  refine lv_iload_n hx hb dL_keyAt_4 rfl (lv_at hl 1 rfl) ?_
  refine lv_iload_n hx hb dL_keyAt_5 rfl (lv_at hl 2 rfl) ?_
  refine lv_iload_n hx hb dL_keyAt_6 rfl (lv_at hl 3 rfl) ?_
  rcases cthn_cases hf with ⟨E1, σ1, hq1, hf⟩ | ⟨vr1, σ1, hq1, hf⟩
  · have hM := ok_X4_keyAt (D := D) (cy := cy) B.2.2.2.2.2.2.2.2 B.2.2.2.2.2.2.1 X _ v1 v2 v3 hq1
    refine sThrC (g_runV (o := .inl E1) (mc := 1) (ms := 6) (k := 0) (T := TX4) (N := 8) B h hM cw_L_53 ⟨Nat.le_of_ble_eq_true rfl, Nat.le_of_ble_eq_true rfl⟩ (by decide) (S_row _) rfl rfl hl.1.symm rfl (Nat.le_of_ble_eq_true rfl) dL_keyAt_7 ⟨Nat.le_of_eq (Nat.zero_add _), Nat.le_of_eq (Nat.zero_add _)⟩) h (fun H locs q ce h hc hv hcl => ?_)
    by_cases e1_0 : E1 = "java/lang/IndexOutOfBoundsException"
    · rw [if_pos e1_0] at hf
      subst e1_0
      refine vx_catch (own := RL) (name := "java/lang/IndexOutOfBoundsException") B.2.2.2.1 [] ⟨0, 12, 15, 13⟩ [] (by rw [htab]; rfl) (fun z hz => nomatch hz) rfl (by decide) (B.2.2.2.2.1 _ hw343) (va_Nw.use rfl (B.2.2.2.2.2.1.2.2.2.2.1 _ (by decide +kernel))) hc hv hcl ?_
      refine lv_astore (lv' := [(5, .ref q), (0, .ref (ad 0)), (1, .int v1), (2, .int v2), (3, .int v3), (4, .ref (ad 61))]) hx hb dL_keyAt_15 hl (by decide) rfl (fun ls hl => ?_)
      refine lv_iconst (v := (1 : Int32)) hx hb dL_keyAt_17 (by decide) ?_
      obtain ⟨rfl, h2⟩ := Prod.mk.inj (Option.some.inj hf); obtain ⟨rfl, rfl⟩ := Prod.mk.inj h2
      refine W.widen (k := 1) (n := 6) (Nat.le_refl _) (Nat.le_refl _) ?_
      exact sE_i B hr h dL_keyAt_18
    rw [if_neg e1_0] at hf
    cases hf
  have hM := ok_X4_keyAt (D := D) (cy := cy) B.2.2.2.2.2.2.2.2 B.2.2.2.2.2.2.1 X _ v1 v2 v3 hq1
  refine sRetC1 (g_runV (o := .inr (some (.int vr1))) (mc := 0) (ms := 0) (k := 0) (T := TX4) (N := 8) B h hM cw_L_53 ⟨Nat.le_of_ble_eq_true rfl, Nat.le_of_ble_eq_true rfl⟩ (by decide) (S_row _) rfl rfl hl.1.symm rfl (Nat.le_of_ble_eq_true rfl) dL_keyAt_7 ⟨Nat.zero_le _, Nat.zero_le _⟩) h (fun H locs h => ?_)
  refine lv_i2l (v := (vr1.toInt64)) hx hb dL_keyAt_10 rfl ?_
  refine g_last B h (i := (0 : Int32)) (inb_in (n := 1) (by decide)) dL_keyAt_11 (fun H locs h => ?_)
  refine lv_goto (tgt := 19) hx hb dL_keyAt_12 (by decide) ?_
  refine lv_iconst (v := (0 : Int32)) hx hb dL_keyAt_19 (by decide) ?_
  obtain ⟨rfl, h2⟩ := Prod.mk.inj (Option.some.inj hf); obtain ⟨rfl, rfl⟩ := Prod.mk.inj h2
  refine W.widen (k := 1) (n := 6) (Nat.zero_le _) (Nat.zero_le _) ?_
  exact sE_i B hr h dL_keyAt_20
set_option maxHeartbeats 4000000 in
set_option maxRecDepth 100000 in
theorem ok_L_lies {l : Launch} (hl0 : l.stackTraces = false) {D : va_G} {cy : Nat → ClassId} {ad : Nat → Nat} (hap : sAp ad) (X : sX) (σ : sM) (v1 : Int32) (v2 : Int32) {r : Int32} {σ' : sM} {X' : sX} (hf : f_L_lies v1 v2 σ X = some (r, σ', X')) : sMet l yL_lies (sWh yL_lies cL_lies 5 (some .int) [(0, 17, 20, 13), (0, 17, 24, 21)]) 8 144 1 6 D cy ad X σ [.ref (ad 0), .int v1, .int v2, .ref (ad 61)] (.inr (some (.int r))) X' σ' := by
  refine sMet_ofH (by decide +kernel) (Nat.le_of_ble_eq_true rfl) hap hl0 ?_
  intro p e s m args below meth c ls B hr htab hl h
  replace hf : (cthn (f_X4_lies v1 v2 σ) (fun E1 σ1 => if E1 = "java/lang/IndexOutOfBoundsException" then (some ((1 : Int32), σ1, X)) else if E1 = "java/util/NoSuchElementException" then (some ((2 : Int32), σ1, X)) else none) (fun vr1 σ1 => if vr1 = 0 then (some ((0 : Int32), σ1, (vp_updL X.1 ((0 : Int32)).toNatClampNeg (0 : Int64), X.2))) else (some ((0 : Int32), σ1, (vp_updL X.1 ((0 : Int32)).toNatClampNeg (1 : Int64), X.2))))) = some (r, σ', X') := hf
  have hx := B.1
  have hb := B.2.1
  refine lv_aload_n hx hb dL_lies_0 rfl (lv_at hl 3 rfl) ?_
  refine lv_iconst (v := (0 : Int32)) hx hb dL_lies_1 (by decide) ?_
  refine lv_aload_n hx hb dL_lies_2 rfl (lv_at hl 0 rfl) ?_
  refine lv_iload_n hx hb dL_lies_3 rfl (lv_at hl 1 rfl) ?_
  refine lv_iload_n hx hb dL_lies_4 rfl (lv_at hl 2 rfl) ?_
  rcases cthn_cases hf with ⟨E1, σ1, hq1, hf⟩ | ⟨vr1, σ1, hq1, hf⟩
  · have hM := ok_X4_lies (D := D) (cy := cy) B.2.2.2.2.2.2.2.2 B.2.2.2.2.2.2.1 X _ v1 v2 hq1
    refine sThrC (g_runV (o := .inl E1) (mc := 1) (ms := 6) (k := 0) (T := TX4) (N := 8) B h hM cw_L_93 ⟨Nat.le_of_ble_eq_true rfl, Nat.le_of_ble_eq_true rfl⟩ (by decide) (S_row _) rfl rfl hl.1.symm rfl (Nat.le_of_ble_eq_true rfl) dL_lies_5 ⟨Nat.le_of_eq (Nat.zero_add _), Nat.le_of_eq (Nat.zero_add _)⟩) h (fun H locs q ce h hc hv hcl => ?_)
    by_cases e1_0 : E1 = "java/lang/IndexOutOfBoundsException"
    · rw [if_pos e1_0] at hf
      subst e1_0
      refine vx_catch (own := RL) (name := "java/lang/IndexOutOfBoundsException") B.2.2.2.1 [] ⟨0, 17, 20, 13⟩ [⟨0, 17, 24, 21⟩] (by rw [htab]; rfl) (fun z hz => nomatch hz) rfl (by decide) (B.2.2.2.2.1 _ hw343) (va_Nw.use rfl (B.2.2.2.2.2.1.2.2.2.2.1 _ (by decide +kernel))) hc hv hcl ?_
      refine lv_astore (lv' := [(4, .ref q), (0, .ref (ad 0)), (1, .int v1), (2, .int v2), (3, .ref (ad 61))]) hx hb dL_lies_20 hl (by decide) rfl (fun ls hl => ?_)
      refine lv_iconst (v := (1 : Int32)) hx hb dL_lies_22 (by decide) ?_
      obtain ⟨rfl, h2⟩ := Prod.mk.inj (Option.some.inj hf); obtain ⟨rfl, rfl⟩ := Prod.mk.inj h2
      refine W.widen (k := 1) (n := 6) (Nat.le_refl _) (Nat.le_refl _) ?_
      exact sE_i B hr h dL_lies_23
    rw [if_neg e1_0] at hf
    by_cases e1_1 : E1 = "java/util/NoSuchElementException"
    · rw [if_pos e1_1] at hf
      subst e1_1
      refine vx_catch (own := RL) (name := "java/util/NoSuchElementException") B.2.2.2.1 [⟨0, 17, 20, 13⟩] ⟨0, 17, 24, 21⟩ [] (by rw [htab]; rfl) ((vx_ps B (by decide) hw343 (by decide +kernel) (by decide +kernel) (by decide +kernel) (fun z hz => nomatch hz))) rfl (by decide) (B.2.2.2.2.1 _ hw468) (va_Nw.use rfl (B.2.2.2.2.2.1.2.2.2.2.1 _ (by decide +kernel))) hc hv hcl ?_
      refine lv_astore (lv' := [(4, .ref q), (0, .ref (ad 0)), (1, .int v1), (2, .int v2), (3, .ref (ad 61))]) hx hb dL_lies_24 hl (by decide) rfl (fun ls hl => ?_)
      refine lv_iconst (v := (2 : Int32)) hx hb dL_lies_26 (by decide) ?_
      obtain ⟨rfl, h2⟩ := Prod.mk.inj (Option.some.inj hf); obtain ⟨rfl, rfl⟩ := Prod.mk.inj h2
      refine W.widen (k := 1) (n := 6) (Nat.le_refl _) (Nat.le_refl _) ?_
      exact sE_i B hr h dL_lies_27
    rw [if_neg e1_1] at hf
    cases hf
  have hM := ok_X4_lies (D := D) (cy := cy) B.2.2.2.2.2.2.2.2 B.2.2.2.2.2.2.1 X _ v1 v2 hq1
  refine sRetC1 (g_runV (o := .inr (some (.int vr1))) (mc := 0) (ms := 0) (k := 0) (T := TX4) (N := 8) B h hM cw_L_93 ⟨Nat.le_of_ble_eq_true rfl, Nat.le_of_ble_eq_true rfl⟩ (by decide) (S_row _) rfl rfl hl.1.symm rfl (Nat.le_of_ble_eq_true rfl) dL_lies_5 ⟨Nat.zero_le _, Nat.zero_le _⟩) h (fun H locs h => ?_)
  refine lv_if_eq (tgt := 15) hx hb dL_lies_8 (by decide) (fun c2 => ?_) (fun c2 => ?_)
  · rw [if_pos c2] at hf
    refine lv_lconst (v := (0 : Int64)) hx hb dL_lies_15 (by decide) ?_
    refine g_last B h (i := (0 : Int32)) (inb_in (n := 1) (by decide)) dL_lies_16 (fun H locs h => ?_)
    refine lv_goto (tgt := 28) hx hb dL_lies_17 (by decide) ?_
    refine lv_iconst (v := (0 : Int32)) hx hb dL_lies_28 (by decide) ?_
    obtain ⟨rfl, h2⟩ := Prod.mk.inj (Option.some.inj hf); obtain ⟨rfl, rfl⟩ := Prod.mk.inj h2
    refine W.widen (k := 1) (n := 6) (Nat.zero_le _) (Nat.zero_le _) ?_
    exact sE_i B hr h dL_lies_29
  · rw [if_neg c2] at hf
    refine lv_lconst (v := (1 : Int64)) hx hb dL_lies_11 (by decide) ?_
    refine lv_goto (tgt := 16) hx hb dL_lies_12 (by decide) ?_
    refine g_last B h (i := (0 : Int32)) (inb_in (n := 1) (by decide)) dL_lies_16 (fun H locs h => ?_)
    refine lv_goto (tgt := 28) hx hb dL_lies_17 (by decide) ?_
    refine lv_iconst (v := (0 : Int32)) hx hb dL_lies_28 (by decide) ?_
    obtain ⟨rfl, h2⟩ := Prod.mk.inj (Option.some.inj hf); obtain ⟨rfl, rfl⟩ := Prod.mk.inj h2
    refine W.widen (k := 1) (n := 6) (Nat.zero_le _) (Nat.zero_le _) ?_
    exact sE_i B hr h dL_lies_29
set_option maxHeartbeats 4000000 in
set_option maxRecDepth 100000 in
theorem ok_L_mark {l : Launch} (hl0 : l.stackTraces = false) {D : va_G} {cy : Nat → ClassId} {ad : Nat → Nat} (hap : sAp ad) (X : sX) (σ : sM) (v1 : Int32) {r : Int32} {σ' : sM} {X' : sX} (hf : f_L_mark v1 σ X = some (r, σ', X')) : sMet l yL_mark (sWh yL_mark cL_mark 4 (some .int) [(0, 9, 12, 13)]) 8 145 1 6 D cy ad X σ [.ref (ad 0), .int v1, .ref (ad 61)] (.inr (some (.int r))) X' σ' := by
  refine sMet_ofH (by decide +kernel) (Nat.le_of_ble_eq_true rfl) hap hl0 ?_
  intro p e s m args below meth c ls B hr htab hl h
  replace hf : (cthn (f_X4_mark v1 σ) (fun E1 σ1 => if E1 = "java/lang/IndexOutOfBoundsException" then (some ((1 : Int32), σ1, X)) else none) (fun vr1 σ1 => some ((0 : Int32), σ1, (vp_updL X.1 ((0 : Int32)).toNatClampNeg (vr1.toInt64), X.2)))) = some (r, σ', X') := hf
  have hx := B.1
  have hb := B.2.1
  refine lv_aload_n hx hb dL_mark_0 rfl (lv_at hl 2 rfl) ?_
  refine lv_iconst (v := (0 : Int32)) hx hb dL_mark_1 (by decide) ?_
  refine lv_aload_n hx hb dL_mark_2 rfl (lv_at hl 0 rfl) ?_
  refine lv_iload_n hx hb dL_mark_3 rfl (lv_at hl 1 rfl) ?_
  rcases cthn_cases hf with ⟨E1, σ1, hq1, hf⟩ | ⟨vr1, σ1, hq1, hf⟩
  · have hM := ok_X4_mark (D := D) (cy := cy) B.2.2.2.2.2.2.2.2 B.2.2.2.2.2.2.1 X _ v1 hq1
    refine sThrC (g_runV (o := .inl E1) (mc := 1) (ms := 6) (k := 0) (T := TX4) (N := 8) B h hM cw_L_57 ⟨Nat.le_of_ble_eq_true rfl, Nat.le_of_ble_eq_true rfl⟩ (by decide) (S_row _) rfl rfl hl.1.symm rfl (Nat.le_of_ble_eq_true rfl) dL_mark_4 ⟨Nat.le_of_eq (Nat.zero_add _), Nat.le_of_eq (Nat.zero_add _)⟩) h (fun H locs q ce h hc hv hcl => ?_)
    by_cases e1_0 : E1 = "java/lang/IndexOutOfBoundsException"
    · rw [if_pos e1_0] at hf
      subst e1_0
      refine vx_catch (own := RL) (name := "java/lang/IndexOutOfBoundsException") B.2.2.2.1 [] ⟨0, 9, 12, 13⟩ [] (by rw [htab]; rfl) (fun z hz => nomatch hz) rfl (by decide) (B.2.2.2.2.1 _ hw343) (va_Nw.use rfl (B.2.2.2.2.2.1.2.2.2.2.1 _ (by decide +kernel))) hc hv hcl ?_
      refine lv_astore_n (lv' := [(3, .ref q), (0, .ref (ad 0)), (1, .int v1), (2, .ref (ad 61))]) hx hb dL_mark_12 rfl hl (by decide) rfl (fun ls hl => ?_)
      refine lv_iconst (v := (1 : Int32)) hx hb dL_mark_13 (by decide) ?_
      obtain ⟨rfl, h2⟩ := Prod.mk.inj (Option.some.inj hf); obtain ⟨rfl, rfl⟩ := Prod.mk.inj h2
      refine W.widen (k := 1) (n := 6) (Nat.le_refl _) (Nat.le_refl _) ?_
      exact sE_i B hr h dL_mark_14
    rw [if_neg e1_0] at hf
    cases hf
  have hM := ok_X4_mark (D := D) (cy := cy) B.2.2.2.2.2.2.2.2 B.2.2.2.2.2.2.1 X _ v1 hq1
  refine sRetC1 (g_runV (o := .inr (some (.int vr1))) (mc := 0) (ms := 0) (k := 0) (T := TX4) (N := 8) B h hM cw_L_57 ⟨Nat.le_of_ble_eq_true rfl, Nat.le_of_ble_eq_true rfl⟩ (by decide) (S_row _) rfl rfl hl.1.symm rfl (Nat.le_of_ble_eq_true rfl) dL_mark_4 ⟨Nat.zero_le _, Nat.zero_le _⟩) h (fun H locs h => ?_)
  refine lv_i2l (v := (vr1.toInt64)) hx hb dL_mark_7 rfl ?_
  refine g_last B h (i := (0 : Int32)) (inb_in (n := 1) (by decide)) dL_mark_8 (fun H locs h => ?_)
  refine lv_goto (tgt := 15) hx hb dL_mark_9 (by decide) ?_
  refine lv_iconst (v := (0 : Int32)) hx hb dL_mark_15 (by decide) ?_
  obtain ⟨rfl, h2⟩ := Prod.mk.inj (Option.some.inj hf); obtain ⟨rfl, rfl⟩ := Prod.mk.inj h2
  refine W.widen (k := 1) (n := 6) (Nat.zero_le _) (Nat.zero_le _) ?_
  exact sE_i B hr h dL_mark_16
set_option maxHeartbeats 4000000 in
set_option maxRecDepth 100000 in
theorem ok_L_meanKey {l : Launch} (hl0 : l.stackTraces = false) {D : va_G} {cy : Nat → ClassId} {ad : Nat → Nat} (hap : sAp ad) (X : sX) (σ : sM) (v1 : Int32) {r : Int32} {σ' : sM} {X' : sX} (hf : f_L_meanKey v1 σ X = some (r, σ', X')) : sMet l yL_meanKey (sWh yL_meanKey cL_meanKey 4 (some .int) [(0, 8, 11, 13), (0, 8, 14, 127)]) 8 146 1 6 D cy ad X σ [.ref (ad 0), .int v1, .ref (ad 62)] (.inr (some (.int r))) X' σ' := by
  refine sMet_ofH (by decide +kernel) (Nat.le_of_ble_eq_true rfl) hap hl0 ?_
  intro p e s m args below meth c ls B hr htab hl h
  replace hf : (cthn (f_X4_meanKey v1 σ) (fun E1 σ1 => if E1 = "java/lang/IndexOutOfBoundsException" then (some ((1 : Int32), σ1, X)) else if E1 = "java/lang/ArithmeticException" then (some ((2 : Int32), σ1, X)) else none) (fun vr1 σ1 => some ((0 : Int32), σ1, (X.1, vf_upd X.2 ((0 : Int32)).toNatClampNeg vr1)))) = some (r, σ', X') := hf
  have hx := B.1
  have hb := B.2.1
  refine lv_aload_n hx hb dL_meanKey_0 rfl (lv_at hl 2 rfl) ?_
  refine lv_iconst (v := (0 : Int32)) hx hb dL_meanKey_1 (by decide) ?_
  refine lv_aload_n hx hb dL_meanKey_2 rfl (lv_at hl 0 rfl) ?_
  refine lv_iload_n hx hb dL_meanKey_3 rfl (lv_at hl 1 rfl) ?_
  rcases cthn_cases hf with ⟨E1, σ1, hq1, hf⟩ | ⟨vr1, σ1, hq1, hf⟩
  · have hM := ok_X4_meanKey (D := D) (cy := cy) B.2.2.2.2.2.2.2.2 B.2.2.2.2.2.2.1 X _ v1 hq1
    refine sThrC (g_runV (o := .inl E1) (mc := 1) (ms := 6) (k := 0) (T := TX4) (N := 8) B h hM cw_L_123 ⟨Nat.le_of_ble_eq_true rfl, Nat.le_of_ble_eq_true rfl⟩ (by decide) (S_row _) rfl rfl hl.1.symm rfl (Nat.le_of_ble_eq_true rfl) dL_meanKey_4 ⟨Nat.le_of_eq (Nat.zero_add _), Nat.le_of_eq (Nat.zero_add _)⟩) h (fun H locs q ce h hc hv hcl => ?_)
    by_cases e1_0 : E1 = "java/lang/IndexOutOfBoundsException"
    · rw [if_pos e1_0] at hf
      subst e1_0
      refine vx_catch (own := RL) (name := "java/lang/IndexOutOfBoundsException") B.2.2.2.1 [] ⟨0, 8, 11, 13⟩ [⟨0, 8, 14, 127⟩] (by rw [htab]; rfl) (fun z hz => nomatch hz) rfl (by decide) (B.2.2.2.2.1 _ hw343) (va_Nw.use rfl (B.2.2.2.2.2.1.2.2.2.2.1 _ (by decide +kernel))) hc hv hcl ?_
      refine lv_astore_n (lv' := [(3, .ref q), (0, .ref (ad 0)), (1, .int v1), (2, .ref (ad 62))]) hx hb dL_meanKey_11 rfl hl (by decide) rfl (fun ls hl => ?_)
      refine lv_iconst (v := (1 : Int32)) hx hb dL_meanKey_12 (by decide) ?_
      obtain ⟨rfl, h2⟩ := Prod.mk.inj (Option.some.inj hf); obtain ⟨rfl, rfl⟩ := Prod.mk.inj h2
      refine W.widen (k := 1) (n := 6) (Nat.le_refl _) (Nat.le_refl _) ?_
      exact sE_i B hr h dL_meanKey_13
    rw [if_neg e1_0] at hf
    by_cases e1_1 : E1 = "java/lang/ArithmeticException"
    · rw [if_pos e1_1] at hf
      subst e1_1
      refine vx_catch (own := RL) (name := "java/lang/ArithmeticException") B.2.2.2.1 [⟨0, 8, 11, 13⟩] ⟨0, 8, 14, 127⟩ [] (by rw [htab]; rfl) ((vx_ps B (by decide) hw343 (by decide +kernel) (by decide +kernel) (by decide +kernel) (fun z hz => nomatch hz))) rfl (by decide) (B.2.2.2.2.1 _ hw799) (va_Nw.use rfl (B.2.2.2.2.2.1.2.2.2.2.1 _ (by decide +kernel))) hc hv hcl ?_
      refine lv_astore_n (lv' := [(3, .ref q), (0, .ref (ad 0)), (1, .int v1), (2, .ref (ad 62))]) hx hb dL_meanKey_14 rfl hl (by decide) rfl (fun ls hl => ?_)
      refine lv_iconst (v := (2 : Int32)) hx hb dL_meanKey_15 (by decide) ?_
      obtain ⟨rfl, h2⟩ := Prod.mk.inj (Option.some.inj hf); obtain ⟨rfl, rfl⟩ := Prod.mk.inj h2
      refine W.widen (k := 1) (n := 6) (Nat.le_refl _) (Nat.le_refl _) ?_
      exact sE_i B hr h dL_meanKey_16
    rw [if_neg e1_1] at hf
    cases hf
  have hM := ok_X4_meanKey (D := D) (cy := cy) B.2.2.2.2.2.2.2.2 B.2.2.2.2.2.2.1 X _ v1 hq1
  refine sRetC1 (g_runV (o := .inr (some (.double vr1))) (mc := 0) (ms := 0) (k := 0) (T := TX4) (N := 8) B h hM cw_L_123 ⟨Nat.le_of_ble_eq_true rfl, Nat.le_of_ble_eq_true rfl⟩ (by decide) (S_row _) rfl rfl hl.1.symm rfl (Nat.le_of_ble_eq_true rfl) dL_meanKey_4 ⟨Nat.zero_le _, Nat.zero_le _⟩) h (fun H locs h => ?_)
  refine g_dast B h (i := (0 : Int32)) (inb_in (n := 1) (by decide)) dL_meanKey_7 (fun H locs h => ?_)
  refine lv_goto (tgt := 17) hx hb dL_meanKey_8 (by decide) ?_
  refine lv_iconst (v := (0 : Int32)) hx hb dL_meanKey_17 (by decide) ?_
  obtain ⟨rfl, h2⟩ := Prod.mk.inj (Option.some.inj hf); obtain ⟨rfl, rfl⟩ := Prod.mk.inj h2
  refine W.widen (k := 1) (n := 6) (Nat.zero_le _) (Nat.zero_le _) ?_
  exact sE_i B hr h dL_meanKey_18
set_option maxHeartbeats 4000000 in
set_option maxRecDepth 100000 in
theorem ok_L_meet {l : Launch} (hl0 : l.stackTraces = false) {D : va_G} {cy : Nat → ClassId} {ad : Nat → Nat} (hap : sAp ad) (X : sX) (σ : sM) (v1 : Int32) (v2 : Int32) {r : Int32} {σ' : sM} {X' : sX} (hf : f_L_meet v1 v2 σ X = some (r, σ', X')) : sMet l yL_meet (sWh yL_meet cL_meet 5 (some .int) [(0, 10, 13, 13)]) 8 221 1 6 D cy ad X σ [.ref (ad 0), .int v1, .int v2, .ref (ad 61)] (.inr (some (.int r))) X' σ' := by
  refine sMet_ofH (by decide +kernel) (Nat.le_of_ble_eq_true rfl) hap hl0 ?_
  intro p e s m args below meth c ls B hr htab hl h
  replace hf : (cthn (f_X4_meet v1 v2 σ) (fun E1 σ1 => if E1 = "java/lang/IndexOutOfBoundsException" then (some ((1 : Int32), σ1, X)) else none) (fun vr1 σ1 => some ((0 : Int32), σ1, (vp_updL X.1 ((0 : Int32)).toNatClampNeg (vr1.toInt64), X.2)))) = some (r, σ', X') := hf
  have hx := B.1
  have hb := B.2.1
  refine lv_aload_n hx hb dL_meet_0 rfl (lv_at hl 3 rfl) ?_
  refine lv_iconst (v := (0 : Int32)) hx hb dL_meet_1 (by decide) ?_
  refine lv_aload_n hx hb dL_meet_2 rfl (lv_at hl 0 rfl) ?_
  refine lv_iload_n hx hb dL_meet_3 rfl (lv_at hl 1 rfl) ?_
  refine lv_iload_n hx hb dL_meet_4 rfl (lv_at hl 2 rfl) ?_
  rcases cthn_cases hf with ⟨E1, σ1, hq1, hf⟩ | ⟨vr1, σ1, hq1, hf⟩
  · have hM := ok_X4_meet (D := D) (cy := cy) B.2.2.2.2.2.2.2.2 B.2.2.2.2.2.2.1 X _ v1 v2 hq1
    refine sThrC (g_runV (o := .inl E1) (mc := 1) (ms := 6) (k := 0) (T := TX4) (N := 8) B h hM cw_L_110 ⟨Nat.le_of_ble_eq_true rfl, Nat.le_of_ble_eq_true rfl⟩ (by decide) (S_row _) rfl rfl hl.1.symm rfl (Nat.le_of_ble_eq_true rfl) dL_meet_5 ⟨Nat.le_of_eq (Nat.zero_add _), Nat.le_of_eq (Nat.zero_add _)⟩) h (fun H locs q ce h hc hv hcl => ?_)
    by_cases e1_0 : E1 = "java/lang/IndexOutOfBoundsException"
    · rw [if_pos e1_0] at hf
      subst e1_0
      refine vx_catch (own := RL) (name := "java/lang/IndexOutOfBoundsException") B.2.2.2.1 [] ⟨0, 10, 13, 13⟩ [] (by rw [htab]; rfl) (fun z hz => nomatch hz) rfl (by decide) (B.2.2.2.2.1 _ hw343) (va_Nw.use rfl (B.2.2.2.2.2.1.2.2.2.2.1 _ (by decide +kernel))) hc hv hcl ?_
      refine lv_astore (lv' := [(4, .ref q), (0, .ref (ad 0)), (1, .int v1), (2, .int v2), (3, .ref (ad 61))]) hx hb dL_meet_13 hl (by decide) rfl (fun ls hl => ?_)
      refine lv_iconst (v := (1 : Int32)) hx hb dL_meet_15 (by decide) ?_
      obtain ⟨rfl, h2⟩ := Prod.mk.inj (Option.some.inj hf); obtain ⟨rfl, rfl⟩ := Prod.mk.inj h2
      refine W.widen (k := 1) (n := 6) (Nat.le_refl _) (Nat.le_refl _) ?_
      exact sE_i B hr h dL_meet_16
    rw [if_neg e1_0] at hf
    cases hf
  have hM := ok_X4_meet (D := D) (cy := cy) B.2.2.2.2.2.2.2.2 B.2.2.2.2.2.2.1 X _ v1 v2 hq1
  refine sRetC1 (g_runV (o := .inr (some (.int vr1))) (mc := 0) (ms := 0) (k := 0) (T := TX4) (N := 8) B h hM cw_L_110 ⟨Nat.le_of_ble_eq_true rfl, Nat.le_of_ble_eq_true rfl⟩ (by decide) (S_row _) rfl rfl hl.1.symm rfl (Nat.le_of_ble_eq_true rfl) dL_meet_5 ⟨Nat.zero_le _, Nat.zero_le _⟩) h (fun H locs h => ?_)
  refine lv_i2l (v := (vr1.toInt64)) hx hb dL_meet_8 rfl ?_
  refine g_last B h (i := (0 : Int32)) (inb_in (n := 1) (by decide)) dL_meet_9 (fun H locs h => ?_)
  refine lv_goto (tgt := 17) hx hb dL_meet_10 (by decide) ?_
  refine lv_iconst (v := (0 : Int32)) hx hb dL_meet_17 (by decide) ?_
  obtain ⟨rfl, h2⟩ := Prod.mk.inj (Option.some.inj hf); obtain ⟨rfl, rfl⟩ := Prod.mk.inj h2
  refine W.widen (k := 1) (n := 6) (Nat.zero_le _) (Nat.zero_le _) ?_
  exact sE_i B hr h dL_meet_18
set_option maxHeartbeats 4000000 in
set_option maxRecDepth 100000 in
theorem ok_L_near {l : Launch} (hl0 : l.stackTraces = false) {D : va_G} {cy : Nat → ClassId} {ad : Nat → Nat} (hap : sAp ad) (X : sX) (σ : sM) (v1 : Int32) (v2 : Int32) (v3 : Int32) {r : Int32} {σ' : sM} {X' : sX} (hf : f_L_near v1 v2 v3 σ X = some (r, σ', X')) : sMet l yL_near (sWh yL_near cL_near 6 (some .int) [(0, 12, 15, 13), (0, 12, 19, 30), (0, 12, 23, 21)]) 8 146 1 6 D cy ad X σ [.ref (ad 0), .int v1, .int v2, .int v3, .ref (ad 61)] (.inr (some (.int r))) X' σ' := by
  refine sMet_ofH (by decide +kernel) (Nat.le_of_ble_eq_true rfl) hap hl0 ?_
  intro p e s m args below meth c ls B hr htab hl h
  replace hf : (cthn (f_X4_near v1 v2 v3 σ) (fun E1 σ1 => if E1 = "java/lang/IndexOutOfBoundsException" then (some ((1 : Int32), σ1, X)) else if E1 = "java/lang/IllegalArgumentException" then (some ((2 : Int32), σ1, X)) else if E1 = "java/util/NoSuchElementException" then (some ((3 : Int32), σ1, X)) else none) (fun vr1 σ1 => some ((0 : Int32), σ1, (vp_updL X.1 ((0 : Int32)).toNatClampNeg (vr1.toInt64), X.2)))) = some (r, σ', X') := hf
  have hx := B.1
  have hb := B.2.1
  refine lv_aload hx hb dL_near_0 (lv_at hl 4 rfl) ?_
  refine lv_iconst (v := (0 : Int32)) hx hb dL_near_2 (by decide) ?_
  refine lv_aload_n hx hb dL_near_3 rfl (lv_at hl 0 rfl) ?_
  refine lv_iload_n hx hb dL_near_4 rfl (lv_at hl 1 rfl) ?_
  refine lv_iload_n hx hb dL_near_5 rfl (lv_at hl 2 rfl) ?_
  refine lv_iload_n hx hb dL_near_6 rfl (lv_at hl 3 rfl) ?_
  rcases cthn_cases hf with ⟨E1, σ1, hq1, hf⟩ | ⟨vr1, σ1, hq1, hf⟩
  · have hM := ok_X4_near (D := D) (cy := cy) B.2.2.2.2.2.2.2.2 B.2.2.2.2.2.2.1 X _ v1 v2 v3 hq1
    refine sThrC (g_runV (o := .inl E1) (mc := 1) (ms := 6) (k := 0) (T := TX4) (N := 8) B h hM cw_L_26 ⟨Nat.le_of_ble_eq_true rfl, Nat.le_of_ble_eq_true rfl⟩ (by decide) (S_row _) rfl rfl hl.1.symm rfl (Nat.le_of_ble_eq_true rfl) dL_near_7 ⟨Nat.le_of_eq (Nat.zero_add _), Nat.le_of_eq (Nat.zero_add _)⟩) h (fun H locs q ce h hc hv hcl => ?_)
    by_cases e1_0 : E1 = "java/lang/IndexOutOfBoundsException"
    · rw [if_pos e1_0] at hf
      subst e1_0
      refine vx_catch (own := RL) (name := "java/lang/IndexOutOfBoundsException") B.2.2.2.1 [] ⟨0, 12, 15, 13⟩ [⟨0, 12, 19, 30⟩, ⟨0, 12, 23, 21⟩] (by rw [htab]; rfl) (fun z hz => nomatch hz) rfl (by decide) (B.2.2.2.2.1 _ hw343) (va_Nw.use rfl (B.2.2.2.2.2.1.2.2.2.2.1 _ (by decide +kernel))) hc hv hcl ?_
      refine lv_astore (lv' := [(5, .ref q), (0, .ref (ad 0)), (1, .int v1), (2, .int v2), (3, .int v3), (4, .ref (ad 61))]) hx hb dL_near_15 hl (by decide) rfl (fun ls hl => ?_)
      refine lv_iconst (v := (1 : Int32)) hx hb dL_near_17 (by decide) ?_
      obtain ⟨rfl, h2⟩ := Prod.mk.inj (Option.some.inj hf); obtain ⟨rfl, rfl⟩ := Prod.mk.inj h2
      refine W.widen (k := 1) (n := 6) (Nat.le_refl _) (Nat.le_refl _) ?_
      exact sE_i B hr h dL_near_18
    rw [if_neg e1_0] at hf
    by_cases e1_1 : E1 = "java/lang/IllegalArgumentException"
    · rw [if_pos e1_1] at hf
      subst e1_1
      refine vx_catch (own := RL) (name := "java/lang/IllegalArgumentException") B.2.2.2.1 [⟨0, 12, 15, 13⟩] ⟨0, 12, 19, 30⟩ [⟨0, 12, 23, 21⟩] (by rw [htab]; rfl) ((vx_ps B (by decide) hw343 (by decide +kernel) (by decide +kernel) (by decide +kernel) (fun z hz => nomatch hz))) rfl (by decide) (B.2.2.2.2.1 _ hw500) (va_Nw.use rfl (B.2.2.2.2.2.1.2.2.2.2.1 _ (by decide +kernel))) hc hv hcl ?_
      refine lv_astore (lv' := [(5, .ref q), (0, .ref (ad 0)), (1, .int v1), (2, .int v2), (3, .int v3), (4, .ref (ad 61))]) hx hb dL_near_19 hl (by decide) rfl (fun ls hl => ?_)
      refine lv_iconst (v := (2 : Int32)) hx hb dL_near_21 (by decide) ?_
      obtain ⟨rfl, h2⟩ := Prod.mk.inj (Option.some.inj hf); obtain ⟨rfl, rfl⟩ := Prod.mk.inj h2
      refine W.widen (k := 1) (n := 6) (Nat.le_refl _) (Nat.le_refl _) ?_
      exact sE_i B hr h dL_near_22
    rw [if_neg e1_1] at hf
    by_cases e1_2 : E1 = "java/util/NoSuchElementException"
    · rw [if_pos e1_2] at hf
      subst e1_2
      refine vx_catch (own := RL) (name := "java/util/NoSuchElementException") B.2.2.2.1 [⟨0, 12, 15, 13⟩, ⟨0, 12, 19, 30⟩] ⟨0, 12, 23, 21⟩ [] (by rw [htab]; rfl) ((vx_ps B (by decide) hw343 (by decide +kernel) (by decide +kernel) (by decide +kernel) (vx_ps B (by decide) hw500 (by decide +kernel) (by decide +kernel) (by decide +kernel) (fun z hz => nomatch hz)))) rfl (by decide) (B.2.2.2.2.1 _ hw468) (va_Nw.use rfl (B.2.2.2.2.2.1.2.2.2.2.1 _ (by decide +kernel))) hc hv hcl ?_
      refine lv_astore (lv' := [(5, .ref q), (0, .ref (ad 0)), (1, .int v1), (2, .int v2), (3, .int v3), (4, .ref (ad 61))]) hx hb dL_near_23 hl (by decide) rfl (fun ls hl => ?_)
      refine lv_iconst (v := (3 : Int32)) hx hb dL_near_25 (by decide) ?_
      obtain ⟨rfl, h2⟩ := Prod.mk.inj (Option.some.inj hf); obtain ⟨rfl, rfl⟩ := Prod.mk.inj h2
      refine W.widen (k := 1) (n := 6) (Nat.le_refl _) (Nat.le_refl _) ?_
      exact sE_i B hr h dL_near_26
    rw [if_neg e1_2] at hf
    cases hf
  have hM := ok_X4_near (D := D) (cy := cy) B.2.2.2.2.2.2.2.2 B.2.2.2.2.2.2.1 X _ v1 v2 v3 hq1
  refine sRetC1 (g_runV (o := .inr (some (.int vr1))) (mc := 0) (ms := 0) (k := 0) (T := TX4) (N := 8) B h hM cw_L_26 ⟨Nat.le_of_ble_eq_true rfl, Nat.le_of_ble_eq_true rfl⟩ (by decide) (S_row _) rfl rfl hl.1.symm rfl (Nat.le_of_ble_eq_true rfl) dL_near_7 ⟨Nat.zero_le _, Nat.zero_le _⟩) h (fun H locs h => ?_)
  refine lv_i2l (v := (vr1.toInt64)) hx hb dL_near_10 rfl ?_
  refine g_last B h (i := (0 : Int32)) (inb_in (n := 1) (by decide)) dL_near_11 (fun H locs h => ?_)
  refine lv_goto (tgt := 27) hx hb dL_near_12 (by decide) ?_
  refine lv_iconst (v := (0 : Int32)) hx hb dL_near_27 (by decide) ?_
  obtain ⟨rfl, h2⟩ := Prod.mk.inj (Option.some.inj hf); obtain ⟨rfl, rfl⟩ := Prod.mk.inj h2
  refine W.widen (k := 1) (n := 6) (Nat.zero_le _) (Nat.zero_le _) ?_
  exact sE_i B hr h dL_near_28
set_option maxHeartbeats 4000000 in
set_option maxRecDepth 100000 in
theorem ok_L_open {l : Launch} (hl0 : l.stackTraces = false) {D : va_G} {cy : Nat → ClassId} {ad : Nat → Nat} (hap : sAp ad) (X : sX) (σ : sM) (v1 : Int32) (v2 : Int32) (v3 : Int32) (v4 : Int32) (v5 : Int32) (v6 : Int32) {r : Int32} {σ' : sM} {X' : sX} (hf : f_L_open v1 v2 v3 v4 v5 v6 σ X = some (r, σ', X')) : sMet l yL_open (sWh yL_open cL_open 9 (some .int) [(0, 18, 21, 13), (0, 18, 25, 30)]) 8 149 1 6 D cy ad X σ [.ref (ad 0), .int v1, .int v2, .int v3, .int v4, .int v5, .int v6, .ref (ad 61)] (.inr (some (.int r))) X' σ' := by
  refine sMet_ofH (by decide +kernel) (Nat.le_of_ble_eq_true rfl) hap hl0 ?_
  intro p e s m args below meth c ls B hr htab hl h
  replace hf : (cthn (f_X4_open v1 v2 v3 v4 v5 v6 σ) (fun E1 σ1 => if E1 = "java/lang/IndexOutOfBoundsException" then (some ((1 : Int32), σ1, X)) else if E1 = "java/lang/IllegalArgumentException" then (some ((2 : Int32), σ1, X)) else none) (fun vr1 σ1 => some ((0 : Int32), σ1, (vp_updL X.1 ((0 : Int32)).toNatClampNeg (vr1.toInt64), X.2)))) = some (r, σ', X') := hf
  have hx := B.1
  have hb := B.2.1
  refine lv_aload hx hb dL_open_0 (lv_at hl 7 rfl) ?_
  refine lv_iconst (v := (0 : Int32)) hx hb dL_open_2 (by decide) ?_
  refine lv_aload_n hx hb dL_open_3 rfl (lv_at hl 0 rfl) ?_
  refine lv_iload_n hx hb dL_open_4 rfl (lv_at hl 1 rfl) ?_
  refine lv_iload_n hx hb dL_open_5 rfl (lv_at hl 2 rfl) ?_
  refine lv_iload_n hx hb dL_open_6 rfl (lv_at hl 3 rfl) ?_
  refine lv_iload hx hb dL_open_7 (lv_at hl 4 rfl) ?_
  refine lv_iload hx hb dL_open_9 (lv_at hl 5 rfl) ?_
  refine lv_iload hx hb dL_open_11 (lv_at hl 6 rfl) ?_
  rcases cthn_cases hf with ⟨E1, σ1, hq1, hf⟩ | ⟨vr1, σ1, hq1, hf⟩
  · have hM := ok_X4_open (D := D) (cy := cy) B.2.2.2.2.2.2.2.2 B.2.2.2.2.2.2.1 X _ v1 v2 v3 v4 v5 v6 hq1
    refine sThrC (g_runV (o := .inl E1) (mc := 1) (ms := 6) (k := 0) (T := TX4) (N := 8) B h hM cw_L_64 ⟨Nat.le_of_ble_eq_true rfl, Nat.le_of_ble_eq_true rfl⟩ (by decide) (S_row _) rfl rfl hl.1.symm rfl (Nat.le_of_ble_eq_true rfl) dL_open_13 ⟨Nat.le_of_eq (Nat.zero_add _), Nat.le_of_eq (Nat.zero_add _)⟩) h (fun H locs q ce h hc hv hcl => ?_)
    by_cases e1_0 : E1 = "java/lang/IndexOutOfBoundsException"
    · rw [if_pos e1_0] at hf
      subst e1_0
      refine vx_catch (own := RL) (name := "java/lang/IndexOutOfBoundsException") B.2.2.2.1 [] ⟨0, 18, 21, 13⟩ [⟨0, 18, 25, 30⟩] (by rw [htab]; rfl) (fun z hz => nomatch hz) rfl (by decide) (B.2.2.2.2.1 _ hw343) (va_Nw.use rfl (B.2.2.2.2.2.1.2.2.2.2.1 _ (by decide +kernel))) hc hv hcl ?_
      refine lv_astore (lv' := [(8, .ref q), (0, .ref (ad 0)), (1, .int v1), (2, .int v2), (3, .int v3), (4, .int v4), (5, .int v5), (6, .int v6), (7, .ref (ad 61))]) hx hb dL_open_21 hl (by decide) rfl (fun ls hl => ?_)
      refine lv_iconst (v := (1 : Int32)) hx hb dL_open_23 (by decide) ?_
      obtain ⟨rfl, h2⟩ := Prod.mk.inj (Option.some.inj hf); obtain ⟨rfl, rfl⟩ := Prod.mk.inj h2
      refine W.widen (k := 1) (n := 6) (Nat.le_refl _) (Nat.le_refl _) ?_
      exact sE_i B hr h dL_open_24
    rw [if_neg e1_0] at hf
    by_cases e1_1 : E1 = "java/lang/IllegalArgumentException"
    · rw [if_pos e1_1] at hf
      subst e1_1
      refine vx_catch (own := RL) (name := "java/lang/IllegalArgumentException") B.2.2.2.1 [⟨0, 18, 21, 13⟩] ⟨0, 18, 25, 30⟩ [] (by rw [htab]; rfl) ((vx_ps B (by decide) hw343 (by decide +kernel) (by decide +kernel) (by decide +kernel) (fun z hz => nomatch hz))) rfl (by decide) (B.2.2.2.2.1 _ hw500) (va_Nw.use rfl (B.2.2.2.2.2.1.2.2.2.2.1 _ (by decide +kernel))) hc hv hcl ?_
      refine lv_astore (lv' := [(8, .ref q), (0, .ref (ad 0)), (1, .int v1), (2, .int v2), (3, .int v3), (4, .int v4), (5, .int v5), (6, .int v6), (7, .ref (ad 61))]) hx hb dL_open_25 hl (by decide) rfl (fun ls hl => ?_)
      refine lv_iconst (v := (2 : Int32)) hx hb dL_open_27 (by decide) ?_
      obtain ⟨rfl, h2⟩ := Prod.mk.inj (Option.some.inj hf); obtain ⟨rfl, rfl⟩ := Prod.mk.inj h2
      refine W.widen (k := 1) (n := 6) (Nat.le_refl _) (Nat.le_refl _) ?_
      exact sE_i B hr h dL_open_28
    rw [if_neg e1_1] at hf
    cases hf
  have hM := ok_X4_open (D := D) (cy := cy) B.2.2.2.2.2.2.2.2 B.2.2.2.2.2.2.1 X _ v1 v2 v3 v4 v5 v6 hq1
  refine sRetC1 (g_runV (o := .inr (some (.int vr1))) (mc := 0) (ms := 0) (k := 0) (T := TX4) (N := 8) B h hM cw_L_64 ⟨Nat.le_of_ble_eq_true rfl, Nat.le_of_ble_eq_true rfl⟩ (by decide) (S_row _) rfl rfl hl.1.symm rfl (Nat.le_of_ble_eq_true rfl) dL_open_13 ⟨Nat.zero_le _, Nat.zero_le _⟩) h (fun H locs h => ?_)
  refine lv_i2l (v := (vr1.toInt64)) hx hb dL_open_16 rfl ?_
  refine g_last B h (i := (0 : Int32)) (inb_in (n := 1) (by decide)) dL_open_17 (fun H locs h => ?_)
  refine lv_goto (tgt := 29) hx hb dL_open_18 (by decide) ?_
  refine lv_iconst (v := (0 : Int32)) hx hb dL_open_29 (by decide) ?_
  obtain ⟨rfl, h2⟩ := Prod.mk.inj (Option.some.inj hf); obtain ⟨rfl, rfl⟩ := Prod.mk.inj h2
  refine W.widen (k := 1) (n := 6) (Nat.zero_le _) (Nat.zero_le _) ?_
  exact sE_i B hr h dL_open_30
set_option maxHeartbeats 4000000 in
set_option maxRecDepth 100000 in
theorem ok_L_opposite {l : Launch} (hl0 : l.stackTraces = false) {D : va_G} {cy : Nat → ClassId} {ad : Nat → Nat} (hap : sAp ad) (X : sX) (σ : sM) (v1 : Int32) (v2 : Int32) (v3 : Int32) {r : Int32} {σ' : sM} {X' : sX} (hf : f_L_opposite v1 v2 v3 σ X = some (r, σ', X')) : sMet l yL_opposite (sWh yL_opposite cL_opposite 6 (some .int) [(0, 12, 15, 13)]) 8 206 1 6 D cy ad X σ [.ref (ad 0), .int v1, .int v2, .int v3, .ref (ad 61)] (.inr (some (.int r))) X' σ' := by
  refine sMet_ofH (by decide +kernel) (Nat.le_of_ble_eq_true rfl) hap hl0 ?_
  intro p e s m args below meth c ls B hr htab hl h
  replace hf : (cthn (f_X4_opposite v1 v2 v3 σ) (fun E1 σ1 => if E1 = "java/lang/IndexOutOfBoundsException" then (some ((1 : Int32), σ1, X)) else none) (fun vr1 σ1 => some ((0 : Int32), σ1, (vp_updL X.1 ((0 : Int32)).toNatClampNeg (vr1.toInt64), X.2)))) = some (r, σ', X') := hf
  have hx := B.1
  have hb := B.2.1
  refine lv_aload hx hb dL_opposite_0 (lv_at hl 4 rfl) ?_
  refine lv_iconst (v := (0 : Int32)) hx hb dL_opposite_2 (by decide) ?_
  refine lv_aload_n hx hb dL_opposite_3 rfl (lv_at hl 0 rfl) ?_
  refine lv_iload_n hx hb dL_opposite_4 rfl (lv_at hl 1 rfl) ?_
  refine lv_iload_n hx hb dL_opposite_5 rfl (lv_at hl 2 rfl) ?_
  refine lv_iload_n hx hb dL_opposite_6 rfl (lv_at hl 3 rfl) ?_
  rcases cthn_cases hf with ⟨E1, σ1, hq1, hf⟩ | ⟨vr1, σ1, hq1, hf⟩
  · have hM := ok_X4_opposite (D := D) (cy := cy) B.2.2.2.2.2.2.2.2 B.2.2.2.2.2.2.1 X _ v1 v2 v3 hq1
    refine sThrC (g_runV (o := .inl E1) (mc := 1) (ms := 6) (k := 0) (T := TX4) (N := 8) B h hM cw_L_113 ⟨Nat.le_of_ble_eq_true rfl, Nat.le_of_ble_eq_true rfl⟩ (by decide) (S_row _) rfl rfl hl.1.symm rfl (Nat.le_of_ble_eq_true rfl) dL_opposite_7 ⟨Nat.le_of_eq (Nat.zero_add _), Nat.le_of_eq (Nat.zero_add _)⟩) h (fun H locs q ce h hc hv hcl => ?_)
    by_cases e1_0 : E1 = "java/lang/IndexOutOfBoundsException"
    · rw [if_pos e1_0] at hf
      subst e1_0
      refine vx_catch (own := RL) (name := "java/lang/IndexOutOfBoundsException") B.2.2.2.1 [] ⟨0, 12, 15, 13⟩ [] (by rw [htab]; rfl) (fun z hz => nomatch hz) rfl (by decide) (B.2.2.2.2.1 _ hw343) (va_Nw.use rfl (B.2.2.2.2.2.1.2.2.2.2.1 _ (by decide +kernel))) hc hv hcl ?_
      refine lv_astore (lv' := [(5, .ref q), (0, .ref (ad 0)), (1, .int v1), (2, .int v2), (3, .int v3), (4, .ref (ad 61))]) hx hb dL_opposite_15 hl (by decide) rfl (fun ls hl => ?_)
      refine lv_iconst (v := (1 : Int32)) hx hb dL_opposite_17 (by decide) ?_
      obtain ⟨rfl, h2⟩ := Prod.mk.inj (Option.some.inj hf); obtain ⟨rfl, rfl⟩ := Prod.mk.inj h2
      refine W.widen (k := 1) (n := 6) (Nat.le_refl _) (Nat.le_refl _) ?_
      exact sE_i B hr h dL_opposite_18
    rw [if_neg e1_0] at hf
    cases hf
  have hM := ok_X4_opposite (D := D) (cy := cy) B.2.2.2.2.2.2.2.2 B.2.2.2.2.2.2.1 X _ v1 v2 v3 hq1
  refine sRetC1 (g_runV (o := .inr (some (.int vr1))) (mc := 0) (ms := 0) (k := 0) (T := TX4) (N := 8) B h hM cw_L_113 ⟨Nat.le_of_ble_eq_true rfl, Nat.le_of_ble_eq_true rfl⟩ (by decide) (S_row _) rfl rfl hl.1.symm rfl (Nat.le_of_ble_eq_true rfl) dL_opposite_7 ⟨Nat.zero_le _, Nat.zero_le _⟩) h (fun H locs h => ?_)
  refine lv_i2l (v := (vr1.toInt64)) hx hb dL_opposite_10 rfl ?_
  refine g_last B h (i := (0 : Int32)) (inb_in (n := 1) (by decide)) dL_opposite_11 (fun H locs h => ?_)
  refine lv_goto (tgt := 19) hx hb dL_opposite_12 (by decide) ?_
  refine lv_iconst (v := (0 : Int32)) hx hb dL_opposite_19 (by decide) ?_
  obtain ⟨rfl, h2⟩ := Prod.mk.inj (Option.some.inj hf); obtain ⟨rfl, rfl⟩ := Prod.mk.inj h2
  refine W.widen (k := 1) (n := 6) (Nat.zero_le _) (Nat.zero_le _) ?_
  exact sE_i B hr h dL_opposite_20
set_option maxHeartbeats 4000000 in
set_option maxRecDepth 100000 in
theorem ok_L_play {l : Launch} (hl0 : l.stackTraces = false) {D : va_G} {cy : Nat → ClassId} {ad : Nat → Nat} (hap : sAp ad) (X : sX) (σ : sM) (v1 : Int32) (v2 : Int32) {r : Int32} {σ' : sM} {X' : sX} (hf : f_L_play v1 v2 σ X = some (r, σ', X')) : sMet l yL_play (sWh yL_play cL_play 5 (some .int) [(0, 10, 13, 13), (0, 10, 17, 15)]) 8 223 1 6 D cy ad X σ [.ref (ad 0), .int v1, .int v2, .ref (ad 61)] (.inr (some (.int r))) X' σ' := by
  refine sMet_ofH (by decide +kernel) (Nat.le_of_ble_eq_true rfl) hap hl0 ?_
  intro p e s m args below meth c ls B hr htab hl h
  replace hf : (cthn (f_X4_play v1 v2 σ) (fun E1 σ1 => if E1 = "java/lang/IndexOutOfBoundsException" then (some ((1 : Int32), σ1, X)) else if E1 = "java/lang/IllegalStateException" then (some ((2 : Int32), σ1, X)) else none) (fun vr1 σ1 => some ((0 : Int32), σ1, (vp_updL X.1 ((0 : Int32)).toNatClampNeg (vr1.toInt64), X.2)))) = some (r, σ', X') := hf
  have hx := B.1
  have hb := B.2.1
  refine lv_aload_n hx hb dL_play_0 rfl (lv_at hl 3 rfl) ?_
  refine lv_iconst (v := (0 : Int32)) hx hb dL_play_1 (by decide) ?_
  refine lv_aload_n hx hb dL_play_2 rfl (lv_at hl 0 rfl) ?_
  refine lv_iload_n hx hb dL_play_3 rfl (lv_at hl 1 rfl) ?_
  refine lv_iload_n hx hb dL_play_4 rfl (lv_at hl 2 rfl) ?_
  rcases cthn_cases hf with ⟨E1, σ1, hq1, hf⟩ | ⟨vr1, σ1, hq1, hf⟩
  · have hM := ok_X4_play (D := D) (cy := cy) B.2.2.2.2.2.2.2.2 B.2.2.2.2.2.2.1 X _ v1 v2 hq1
    refine sThrC (g_runV (o := .inl E1) (mc := 1) (ms := 6) (k := 0) (T := TX4) (N := 8) B h hM cw_L_103 ⟨Nat.le_of_ble_eq_true rfl, Nat.le_of_ble_eq_true rfl⟩ (by decide) (S_row _) rfl rfl hl.1.symm rfl (Nat.le_of_ble_eq_true rfl) dL_play_5 ⟨Nat.le_of_eq (Nat.zero_add _), Nat.le_of_eq (Nat.zero_add _)⟩) h (fun H locs q ce h hc hv hcl => ?_)
    by_cases e1_0 : E1 = "java/lang/IndexOutOfBoundsException"
    · rw [if_pos e1_0] at hf
      subst e1_0
      refine vx_catch (own := RL) (name := "java/lang/IndexOutOfBoundsException") B.2.2.2.1 [] ⟨0, 10, 13, 13⟩ [⟨0, 10, 17, 15⟩] (by rw [htab]; rfl) (fun z hz => nomatch hz) rfl (by decide) (B.2.2.2.2.1 _ hw343) (va_Nw.use rfl (B.2.2.2.2.2.1.2.2.2.2.1 _ (by decide +kernel))) hc hv hcl ?_
      refine lv_astore (lv' := [(4, .ref q), (0, .ref (ad 0)), (1, .int v1), (2, .int v2), (3, .ref (ad 61))]) hx hb dL_play_13 hl (by decide) rfl (fun ls hl => ?_)
      refine lv_iconst (v := (1 : Int32)) hx hb dL_play_15 (by decide) ?_
      obtain ⟨rfl, h2⟩ := Prod.mk.inj (Option.some.inj hf); obtain ⟨rfl, rfl⟩ := Prod.mk.inj h2
      refine W.widen (k := 1) (n := 6) (Nat.le_refl _) (Nat.le_refl _) ?_
      exact sE_i B hr h dL_play_16
    rw [if_neg e1_0] at hf
    by_cases e1_1 : E1 = "java/lang/IllegalStateException"
    · rw [if_pos e1_1] at hf
      subst e1_1
      refine vx_catch (own := RL) (name := "java/lang/IllegalStateException") B.2.2.2.1 [⟨0, 10, 13, 13⟩] ⟨0, 10, 17, 15⟩ [] (by rw [htab]; rfl) ((vx_ps B (by decide) hw343 (by decide +kernel) (by decide +kernel) (by decide +kernel) (fun z hz => nomatch hz))) rfl (by decide) (B.2.2.2.2.1 _ hw422) (va_Nw.use rfl (B.2.2.2.2.2.1.2.2.2.2.1 _ (by decide +kernel))) hc hv hcl ?_
      refine lv_astore (lv' := [(4, .ref q), (0, .ref (ad 0)), (1, .int v1), (2, .int v2), (3, .ref (ad 61))]) hx hb dL_play_17 hl (by decide) rfl (fun ls hl => ?_)
      refine lv_iconst (v := (2 : Int32)) hx hb dL_play_19 (by decide) ?_
      obtain ⟨rfl, h2⟩ := Prod.mk.inj (Option.some.inj hf); obtain ⟨rfl, rfl⟩ := Prod.mk.inj h2
      refine W.widen (k := 1) (n := 6) (Nat.le_refl _) (Nat.le_refl _) ?_
      exact sE_i B hr h dL_play_20
    rw [if_neg e1_1] at hf
    cases hf
  have hM := ok_X4_play (D := D) (cy := cy) B.2.2.2.2.2.2.2.2 B.2.2.2.2.2.2.1 X _ v1 v2 hq1
  refine sRetC1 (g_runV (o := .inr (some (.int vr1))) (mc := 0) (ms := 0) (k := 0) (T := TX4) (N := 8) B h hM cw_L_103 ⟨Nat.le_of_ble_eq_true rfl, Nat.le_of_ble_eq_true rfl⟩ (by decide) (S_row _) rfl rfl hl.1.symm rfl (Nat.le_of_ble_eq_true rfl) dL_play_5 ⟨Nat.zero_le _, Nat.zero_le _⟩) h (fun H locs h => ?_)
  refine lv_i2l (v := (vr1.toInt64)) hx hb dL_play_8 rfl ?_
  refine g_last B h (i := (0 : Int32)) (inb_in (n := 1) (by decide)) dL_play_9 (fun H locs h => ?_)
  refine lv_goto (tgt := 21) hx hb dL_play_10 (by decide) ?_
  refine lv_iconst (v := (0 : Int32)) hx hb dL_play_21 (by decide) ?_
  obtain ⟨rfl, h2⟩ := Prod.mk.inj (Option.some.inj hf); obtain ⟨rfl, rfl⟩ := Prod.mk.inj h2
  refine W.widen (k := 1) (n := 6) (Nat.zero_le _) (Nat.zero_le _) ?_
  exact sE_i B hr h dL_play_22
set_option maxHeartbeats 4000000 in
set_option maxRecDepth 100000 in
theorem ok_L_playBoth {l : Launch} (hl0 : l.stackTraces = false) {D : va_G} {cy : Nat → ClassId} {ad : Nat → Nat} (hap : sAp ad) (X : sX) (σ : sM) (v1 : Int32) (v2 : Int32) (v3 : Int32) (v4 : Int32) {r : Int32} {σ' : sM} {X' : sX} (hf : f_L_playBoth v1 v2 v3 v4 σ X = some (r, σ', X')) : sMet l yL_playBoth (sWh yL_playBoth cL_playBoth 7 (some .int) [(0, 14, 17, 13), (0, 14, 21, 15)]) 8 253 1 6 D cy ad X σ [.ref (ad 0), .int v1, .int v2, .int v3, .int v4, .ref (ad 61)] (.inr (some (.int r))) X' σ' := by
  refine sMet_ofH (by decide +kernel) (Nat.le_of_ble_eq_true rfl) hap hl0 ?_
  intro p e s m args below meth c ls B hr htab hl h
  replace hf : (cthn (f_X4_playBoth v1 v2 v3 v4 σ) (fun E1 σ1 => if E1 = "java/lang/IndexOutOfBoundsException" then (some ((1 : Int32), σ1, X)) else if E1 = "java/lang/IllegalStateException" then (some ((2 : Int32), σ1, X)) else none) (fun vr1 σ1 => some ((0 : Int32), σ1, (vp_updL X.1 ((0 : Int32)).toNatClampNeg (vr1.toInt64), X.2)))) = some (r, σ', X') := hf
  have hx := B.1
  have hb := B.2.1
  refine lv_aload hx hb dL_playBoth_0 (lv_at hl 5 rfl) ?_
  refine lv_iconst (v := (0 : Int32)) hx hb dL_playBoth_2 (by decide) ?_
  refine lv_aload_n hx hb dL_playBoth_3 rfl (lv_at hl 0 rfl) ?_
  refine lv_iload_n hx hb dL_playBoth_4 rfl (lv_at hl 1 rfl) ?_
  refine lv_iload_n hx hb dL_playBoth_5 rfl (lv_at hl 2 rfl) ?_
  refine lv_iload_n hx hb dL_playBoth_6 rfl (lv_at hl 3 rfl) ?_
  refine lv_iload hx hb dL_playBoth_7 (lv_at hl 4 rfl) ?_
  rcases cthn_cases hf with ⟨E1, σ1, hq1, hf⟩ | ⟨vr1, σ1, hq1, hf⟩
  · have hM := ok_X4_playBoth (D := D) (cy := cy) B.2.2.2.2.2.2.2.2 B.2.2.2.2.2.2.1 X _ v1 v2 v3 v4 hq1
    refine sThrC (g_runV (o := .inl E1) (mc := 1) (ms := 6) (k := 0) (T := TX4) (N := 8) B h hM cw_L_106 ⟨Nat.le_of_ble_eq_true rfl, Nat.le_of_ble_eq_true rfl⟩ (by decide) (S_row _) rfl rfl hl.1.symm rfl (Nat.le_of_ble_eq_true rfl) dL_playBoth_9 ⟨Nat.le_of_eq (Nat.zero_add _), Nat.le_of_eq (Nat.zero_add _)⟩) h (fun H locs q ce h hc hv hcl => ?_)
    by_cases e1_0 : E1 = "java/lang/IndexOutOfBoundsException"
    · rw [if_pos e1_0] at hf
      subst e1_0
      refine vx_catch (own := RL) (name := "java/lang/IndexOutOfBoundsException") B.2.2.2.1 [] ⟨0, 14, 17, 13⟩ [⟨0, 14, 21, 15⟩] (by rw [htab]; rfl) (fun z hz => nomatch hz) rfl (by decide) (B.2.2.2.2.1 _ hw343) (va_Nw.use rfl (B.2.2.2.2.2.1.2.2.2.2.1 _ (by decide +kernel))) hc hv hcl ?_
      refine lv_astore (lv' := [(6, .ref q), (0, .ref (ad 0)), (1, .int v1), (2, .int v2), (3, .int v3), (4, .int v4), (5, .ref (ad 61))]) hx hb dL_playBoth_17 hl (by decide) rfl (fun ls hl => ?_)
      refine lv_iconst (v := (1 : Int32)) hx hb dL_playBoth_19 (by decide) ?_
      obtain ⟨rfl, h2⟩ := Prod.mk.inj (Option.some.inj hf); obtain ⟨rfl, rfl⟩ := Prod.mk.inj h2
      refine W.widen (k := 1) (n := 6) (Nat.le_refl _) (Nat.le_refl _) ?_
      exact sE_i B hr h dL_playBoth_20
    rw [if_neg e1_0] at hf
    by_cases e1_1 : E1 = "java/lang/IllegalStateException"
    · rw [if_pos e1_1] at hf
      subst e1_1
      refine vx_catch (own := RL) (name := "java/lang/IllegalStateException") B.2.2.2.1 [⟨0, 14, 17, 13⟩] ⟨0, 14, 21, 15⟩ [] (by rw [htab]; rfl) ((vx_ps B (by decide) hw343 (by decide +kernel) (by decide +kernel) (by decide +kernel) (fun z hz => nomatch hz))) rfl (by decide) (B.2.2.2.2.1 _ hw422) (va_Nw.use rfl (B.2.2.2.2.2.1.2.2.2.2.1 _ (by decide +kernel))) hc hv hcl ?_
      refine lv_astore (lv' := [(6, .ref q), (0, .ref (ad 0)), (1, .int v1), (2, .int v2), (3, .int v3), (4, .int v4), (5, .ref (ad 61))]) hx hb dL_playBoth_21 hl (by decide) rfl (fun ls hl => ?_)
      refine lv_iconst (v := (2 : Int32)) hx hb dL_playBoth_23 (by decide) ?_
      obtain ⟨rfl, h2⟩ := Prod.mk.inj (Option.some.inj hf); obtain ⟨rfl, rfl⟩ := Prod.mk.inj h2
      refine W.widen (k := 1) (n := 6) (Nat.le_refl _) (Nat.le_refl _) ?_
      exact sE_i B hr h dL_playBoth_24
    rw [if_neg e1_1] at hf
    cases hf
  have hM := ok_X4_playBoth (D := D) (cy := cy) B.2.2.2.2.2.2.2.2 B.2.2.2.2.2.2.1 X _ v1 v2 v3 v4 hq1
  refine sRetC1 (g_runV (o := .inr (some (.int vr1))) (mc := 0) (ms := 0) (k := 0) (T := TX4) (N := 8) B h hM cw_L_106 ⟨Nat.le_of_ble_eq_true rfl, Nat.le_of_ble_eq_true rfl⟩ (by decide) (S_row _) rfl rfl hl.1.symm rfl (Nat.le_of_ble_eq_true rfl) dL_playBoth_9 ⟨Nat.zero_le _, Nat.zero_le _⟩) h (fun H locs h => ?_)
  refine lv_i2l (v := (vr1.toInt64)) hx hb dL_playBoth_12 rfl ?_
  refine g_last B h (i := (0 : Int32)) (inb_in (n := 1) (by decide)) dL_playBoth_13 (fun H locs h => ?_)
  refine lv_goto (tgt := 25) hx hb dL_playBoth_14 (by decide) ?_
  refine lv_iconst (v := (0 : Int32)) hx hb dL_playBoth_25 (by decide) ?_
  obtain ⟨rfl, h2⟩ := Prod.mk.inj (Option.some.inj hf); obtain ⟨rfl, rfl⟩ := Prod.mk.inj h2
  refine W.widen (k := 1) (n := 6) (Nat.zero_le _) (Nat.zero_le _) ?_
  exact sE_i B hr h dL_playBoth_26
set_option maxHeartbeats 4000000 in
set_option maxRecDepth 100000 in
theorem ok_L_poll {l : Launch} (hl0 : l.stackTraces = false) {D : va_G} {cy : Nat → ClassId} {ad : Nat → Nat} (hap : sAp ad) (X : sX) (σ : sM) (v1 : Int32) (v2 : Int32) {r : Int32} {σ' : sM} {X' : sX} (hf : f_L_poll v1 v2 σ X = some (r, σ', X')) : sMet l yL_poll (sWh yL_poll cL_poll 5 (some .int) [(0, 10, 13, 13), (0, 10, 17, 21)]) 8 176 1 6 D cy ad X σ [.ref (ad 0), .int v1, .int v2, .ref (ad 61)] (.inr (some (.int r))) X' σ' := by
  refine sMet_ofH (by decide +kernel) (Nat.le_of_ble_eq_true rfl) hap hl0 ?_
  intro p e s m args below meth c ls B hr htab hl h
  replace hf : (cthn (f_X4_poll v1 v2 σ) (fun E1 σ1 => if E1 = "java/lang/IndexOutOfBoundsException" then (some ((1 : Int32), σ1, X)) else if E1 = "java/util/NoSuchElementException" then (some ((2 : Int32), σ1, X)) else none) (fun vr1 σ1 => some ((0 : Int32), σ1, (vp_updL X.1 ((0 : Int32)).toNatClampNeg (vr1.toInt64), X.2)))) = some (r, σ', X') := hf
  have hx := B.1
  have hb := B.2.1
  refine lv_aload_n hx hb dL_poll_0 rfl (lv_at hl 3 rfl) ?_
  refine lv_iconst (v := (0 : Int32)) hx hb dL_poll_1 (by decide) ?_
  refine lv_aload_n hx hb dL_poll_2 rfl (lv_at hl 0 rfl) ?_
  refine lv_iload_n hx hb dL_poll_3 rfl (lv_at hl 1 rfl) ?_
  refine lv_iload_n hx hb dL_poll_4 rfl (lv_at hl 2 rfl) ?_
  rcases cthn_cases hf with ⟨E1, σ1, hq1, hf⟩ | ⟨vr1, σ1, hq1, hf⟩
  · have hM := ok_X4_poll (D := D) (cy := cy) B.2.2.2.2.2.2.2.2 B.2.2.2.2.2.2.1 X _ v1 v2 hq1
    refine sThrC (g_runV (o := .inl E1) (mc := 1) (ms := 6) (k := 0) (T := TX4) (N := 8) B h hM cw_L_36 ⟨Nat.le_of_ble_eq_true rfl, Nat.le_of_ble_eq_true rfl⟩ (by decide) (S_row _) rfl rfl hl.1.symm rfl (Nat.le_of_ble_eq_true rfl) dL_poll_5 ⟨Nat.le_of_eq (Nat.zero_add _), Nat.le_of_eq (Nat.zero_add _)⟩) h (fun H locs q ce h hc hv hcl => ?_)
    by_cases e1_0 : E1 = "java/lang/IndexOutOfBoundsException"
    · rw [if_pos e1_0] at hf
      subst e1_0
      refine vx_catch (own := RL) (name := "java/lang/IndexOutOfBoundsException") B.2.2.2.1 [] ⟨0, 10, 13, 13⟩ [⟨0, 10, 17, 21⟩] (by rw [htab]; rfl) (fun z hz => nomatch hz) rfl (by decide) (B.2.2.2.2.1 _ hw343) (va_Nw.use rfl (B.2.2.2.2.2.1.2.2.2.2.1 _ (by decide +kernel))) hc hv hcl ?_
      refine lv_astore (lv' := [(4, .ref q), (0, .ref (ad 0)), (1, .int v1), (2, .int v2), (3, .ref (ad 61))]) hx hb dL_poll_13 hl (by decide) rfl (fun ls hl => ?_)
      refine lv_iconst (v := (1 : Int32)) hx hb dL_poll_15 (by decide) ?_
      obtain ⟨rfl, h2⟩ := Prod.mk.inj (Option.some.inj hf); obtain ⟨rfl, rfl⟩ := Prod.mk.inj h2
      refine W.widen (k := 1) (n := 6) (Nat.le_refl _) (Nat.le_refl _) ?_
      exact sE_i B hr h dL_poll_16
    rw [if_neg e1_0] at hf
    by_cases e1_1 : E1 = "java/util/NoSuchElementException"
    · rw [if_pos e1_1] at hf
      subst e1_1
      refine vx_catch (own := RL) (name := "java/util/NoSuchElementException") B.2.2.2.1 [⟨0, 10, 13, 13⟩] ⟨0, 10, 17, 21⟩ [] (by rw [htab]; rfl) ((vx_ps B (by decide) hw343 (by decide +kernel) (by decide +kernel) (by decide +kernel) (fun z hz => nomatch hz))) rfl (by decide) (B.2.2.2.2.1 _ hw468) (va_Nw.use rfl (B.2.2.2.2.2.1.2.2.2.2.1 _ (by decide +kernel))) hc hv hcl ?_
      refine lv_astore (lv' := [(4, .ref q), (0, .ref (ad 0)), (1, .int v1), (2, .int v2), (3, .ref (ad 61))]) hx hb dL_poll_17 hl (by decide) rfl (fun ls hl => ?_)
      refine lv_iconst (v := (2 : Int32)) hx hb dL_poll_19 (by decide) ?_
      obtain ⟨rfl, h2⟩ := Prod.mk.inj (Option.some.inj hf); obtain ⟨rfl, rfl⟩ := Prod.mk.inj h2
      refine W.widen (k := 1) (n := 6) (Nat.le_refl _) (Nat.le_refl _) ?_
      exact sE_i B hr h dL_poll_20
    rw [if_neg e1_1] at hf
    cases hf
  have hM := ok_X4_poll (D := D) (cy := cy) B.2.2.2.2.2.2.2.2 B.2.2.2.2.2.2.1 X _ v1 v2 hq1
  refine sRetC1 (g_runV (o := .inr (some (.int vr1))) (mc := 0) (ms := 0) (k := 0) (T := TX4) (N := 8) B h hM cw_L_36 ⟨Nat.le_of_ble_eq_true rfl, Nat.le_of_ble_eq_true rfl⟩ (by decide) (S_row _) rfl rfl hl.1.symm rfl (Nat.le_of_ble_eq_true rfl) dL_poll_5 ⟨Nat.zero_le _, Nat.zero_le _⟩) h (fun H locs h => ?_)
  refine lv_i2l (v := (vr1.toInt64)) hx hb dL_poll_8 rfl ?_
  refine g_last B h (i := (0 : Int32)) (inb_in (n := 1) (by decide)) dL_poll_9 (fun H locs h => ?_)
  refine lv_goto (tgt := 21) hx hb dL_poll_10 (by decide) ?_
  refine lv_iconst (v := (0 : Int32)) hx hb dL_poll_21 (by decide) ?_
  obtain ⟨rfl, h2⟩ := Prod.mk.inj (Option.some.inj hf); obtain ⟨rfl, rfl⟩ := Prod.mk.inj h2
  refine W.widen (k := 1) (n := 6) (Nat.zero_le _) (Nat.zero_le _) ?_
  exact sE_i B hr h dL_poll_22
set_option maxHeartbeats 4000000 in
set_option maxRecDepth 100000 in
theorem ok_L_polled {l : Launch} (hl0 : l.stackTraces = false) {D : va_G} {cy : Nat → ClassId} {ad : Nat → Nat} (hap : sAp ad) (X : sX) (σ : sM) {r : Int32} {σ' : sM} {X' : sX} (hf : f_L_polled σ X = some (r, σ', X')) : sMet l yL_polled (sWh yL_polled cL_polled 3 (some .int) [(0, 8, 11, 21)]) 7 120 1 6 D cy ad X σ [.ref (ad 0), .ref (ad 61)] (.inr (some (.int r))) X' σ' := by
  refine sMet_ofH (by decide +kernel) (Nat.le_of_ble_eq_true rfl) hap hl0 ?_
  intro p e s m args below meth c ls B hr htab hl h
  replace hf : (cthn (f_X4_polled σ) (fun E1 σ1 => if E1 = "java/util/NoSuchElementException" then (some ((1 : Int32), σ1, X)) else none) (fun vr1 σ1 => some ((0 : Int32), σ1, (vp_updL X.1 ((0 : Int32)).toNatClampNeg (vr1.toInt64), X.2)))) = some (r, σ', X') := hf
  have hx := B.1
  have hb := B.2.1
  refine lv_aload_n hx hb dL_polled_0 rfl (lv_at hl 1 rfl) ?_
  refine lv_iconst (v := (0 : Int32)) hx hb dL_polled_1 (by decide) ?_
  refine lv_aload_n hx hb dL_polled_2 rfl (lv_at hl 0 rfl) ?_
  rcases cthn_cases hf with ⟨E1, σ1, hq1, hf⟩ | ⟨vr1, σ1, hq1, hf⟩
  · have hM := ok_X4_polled (D := D) (cy := cy) B.2.2.2.2.2.2.2.2 B.2.2.2.2.2.2.1 X _  hq1
    refine sThrC (g_runV (o := .inl E1) (mc := 1) (ms := 6) (k := 0) (T := TX4) (N := 8) B h hM cw_L_39 ⟨Nat.le_of_ble_eq_true rfl, Nat.le_of_ble_eq_true rfl⟩ (by decide) (S_row _) rfl rfl hl.1.symm rfl (Nat.le_of_ble_eq_true rfl) dL_polled_3 ⟨Nat.le_of_eq (Nat.zero_add _), Nat.le_of_eq (Nat.zero_add _)⟩) h (fun H locs q ce h hc hv hcl => ?_)
    by_cases e1_0 : E1 = "java/util/NoSuchElementException"
    · rw [if_pos e1_0] at hf
      subst e1_0
      refine vx_catch (own := RL) (name := "java/util/NoSuchElementException") B.2.2.2.1 [] ⟨0, 8, 11, 21⟩ [] (by rw [htab]; rfl) (fun z hz => nomatch hz) rfl (by decide) (B.2.2.2.2.1 _ hw468) (va_Nw.use rfl (B.2.2.2.2.2.1.2.2.2.2.1 _ (by decide +kernel))) hc hv hcl ?_
      refine lv_astore_n (lv' := [(2, .ref q), (0, .ref (ad 0)), (1, .ref (ad 61))]) hx hb dL_polled_11 rfl hl (by decide) rfl (fun ls hl => ?_)
      refine lv_iconst (v := (1 : Int32)) hx hb dL_polled_12 (by decide) ?_
      obtain ⟨rfl, h2⟩ := Prod.mk.inj (Option.some.inj hf); obtain ⟨rfl, rfl⟩ := Prod.mk.inj h2
      refine W.widen (k := 1) (n := 6) (Nat.le_refl _) (Nat.le_refl _) ?_
      exact sE_i B hr h dL_polled_13
    rw [if_neg e1_0] at hf
    cases hf
  have hM := ok_X4_polled (D := D) (cy := cy) B.2.2.2.2.2.2.2.2 B.2.2.2.2.2.2.1 X _  hq1
  refine sRetC1 (g_runV (o := .inr (some (.int vr1))) (mc := 0) (ms := 0) (k := 0) (T := TX4) (N := 8) B h hM cw_L_39 ⟨Nat.le_of_ble_eq_true rfl, Nat.le_of_ble_eq_true rfl⟩ (by decide) (S_row _) rfl rfl hl.1.symm rfl (Nat.le_of_ble_eq_true rfl) dL_polled_3 ⟨Nat.zero_le _, Nat.zero_le _⟩) h (fun H locs h => ?_)
  refine lv_i2l (v := (vr1.toInt64)) hx hb dL_polled_6 rfl ?_
  refine g_last B h (i := (0 : Int32)) (inb_in (n := 1) (by decide)) dL_polled_7 (fun H locs h => ?_)
  refine lv_goto (tgt := 14) hx hb dL_polled_8 (by decide) ?_
  refine lv_iconst (v := (0 : Int32)) hx hb dL_polled_14 (by decide) ?_
  obtain ⟨rfl, h2⟩ := Prod.mk.inj (Option.some.inj hf); obtain ⟨rfl, rfl⟩ := Prod.mk.inj h2
  refine W.widen (k := 1) (n := 6) (Nat.zero_le _) (Nat.zero_le _) ?_
  exact sE_i B hr h dL_polled_15
set_option maxHeartbeats 4000000 in
set_option maxRecDepth 100000 in
theorem ok_L_put {l : Launch} (hl0 : l.stackTraces = false) {D : va_G} {cy : Nat → ClassId} {ad : Nat → Nat} (hap : sAp ad) (X : sX) (σ : sM) (v1 : Int32) (v2 : Int32) (v3 : Int32) {r : Int32} {σ' : sM} {X' : sX} (hf : f_L_put v1 v2 v3 σ X = some (r, σ', X')) : sMet l yL_put (sWh yL_put cL_put 6 (some .int) [(0, 12, 15, 13), (0, 12, 19, 15)]) 8 178 1 6 D cy ad X σ [.ref (ad 0), .int v1, .int v2, .int v3, .ref (ad 61)] (.inr (some (.int r))) X' σ' := by
  refine sMet_ofH (by decide +kernel) (Nat.le_of_ble_eq_true rfl) hap hl0 ?_
  intro p e s m args below meth c ls B hr htab hl h
  replace hf : (cthn (f_X4_put v1 v2 v3 σ) (fun E1 σ1 => if E1 = "java/lang/IndexOutOfBoundsException" then (some ((1 : Int32), σ1, X)) else if E1 = "java/lang/IllegalStateException" then (some ((2 : Int32), σ1, X)) else none) (fun vr1 σ1 => some ((0 : Int32), σ1, (vp_updL X.1 ((0 : Int32)).toNatClampNeg (vr1.toInt64), X.2)))) = some (r, σ', X') := hf
  have hx := B.1
  have hb := B.2.1
  refine lv_aload hx hb dL_put_0 (lv_at hl 4 rfl) ?_
  refine lv_iconst (v := (0 : Int32)) hx hb dL_put_2 (by decide) ?_
  refine lv_aload_n hx hb dL_put_3 rfl (lv_at hl 0 rfl) ?_
  refine lv_iload_n hx hb dL_put_4 rfl (lv_at hl 1 rfl) ?_
  refine lv_iload_n hx hb dL_put_5 rfl (lv_at hl 2 rfl) ?_
  refine lv_iload_n hx hb dL_put_6 rfl (lv_at hl 3 rfl) ?_
  rcases cthn_cases hf with ⟨E1, σ1, hq1, hf⟩ | ⟨vr1, σ1, hq1, hf⟩
  · have hM := ok_X4_put (D := D) (cy := cy) B.2.2.2.2.2.2.2.2 B.2.2.2.2.2.2.1 X _ v1 v2 v3 hq1
    refine sThrC (g_runV (o := .inl E1) (mc := 1) (ms := 6) (k := 0) (T := TX4) (N := 8) B h hM cw_L_7 ⟨Nat.le_of_ble_eq_true rfl, Nat.le_of_ble_eq_true rfl⟩ (by decide) (S_row _) rfl rfl hl.1.symm rfl (Nat.le_of_ble_eq_true rfl) dL_put_7 ⟨Nat.le_of_eq (Nat.zero_add _), Nat.le_of_eq (Nat.zero_add _)⟩) h (fun H locs q ce h hc hv hcl => ?_)
    by_cases e1_0 : E1 = "java/lang/IndexOutOfBoundsException"
    · rw [if_pos e1_0] at hf
      subst e1_0
      refine vx_catch (own := RL) (name := "java/lang/IndexOutOfBoundsException") B.2.2.2.1 [] ⟨0, 12, 15, 13⟩ [⟨0, 12, 19, 15⟩] (by rw [htab]; rfl) (fun z hz => nomatch hz) rfl (by decide) (B.2.2.2.2.1 _ hw343) (va_Nw.use rfl (B.2.2.2.2.2.1.2.2.2.2.1 _ (by decide +kernel))) hc hv hcl ?_
      refine lv_astore (lv' := [(5, .ref q), (0, .ref (ad 0)), (1, .int v1), (2, .int v2), (3, .int v3), (4, .ref (ad 61))]) hx hb dL_put_15 hl (by decide) rfl (fun ls hl => ?_)
      refine lv_iconst (v := (1 : Int32)) hx hb dL_put_17 (by decide) ?_
      obtain ⟨rfl, h2⟩ := Prod.mk.inj (Option.some.inj hf); obtain ⟨rfl, rfl⟩ := Prod.mk.inj h2
      refine W.widen (k := 1) (n := 6) (Nat.le_refl _) (Nat.le_refl _) ?_
      exact sE_i B hr h dL_put_18
    rw [if_neg e1_0] at hf
    by_cases e1_1 : E1 = "java/lang/IllegalStateException"
    · rw [if_pos e1_1] at hf
      subst e1_1
      refine vx_catch (own := RL) (name := "java/lang/IllegalStateException") B.2.2.2.1 [⟨0, 12, 15, 13⟩] ⟨0, 12, 19, 15⟩ [] (by rw [htab]; rfl) ((vx_ps B (by decide) hw343 (by decide +kernel) (by decide +kernel) (by decide +kernel) (fun z hz => nomatch hz))) rfl (by decide) (B.2.2.2.2.1 _ hw422) (va_Nw.use rfl (B.2.2.2.2.2.1.2.2.2.2.1 _ (by decide +kernel))) hc hv hcl ?_
      refine lv_astore (lv' := [(5, .ref q), (0, .ref (ad 0)), (1, .int v1), (2, .int v2), (3, .int v3), (4, .ref (ad 61))]) hx hb dL_put_19 hl (by decide) rfl (fun ls hl => ?_)
      refine lv_iconst (v := (2 : Int32)) hx hb dL_put_21 (by decide) ?_
      obtain ⟨rfl, h2⟩ := Prod.mk.inj (Option.some.inj hf); obtain ⟨rfl, rfl⟩ := Prod.mk.inj h2
      refine W.widen (k := 1) (n := 6) (Nat.le_refl _) (Nat.le_refl _) ?_
      exact sE_i B hr h dL_put_22
    rw [if_neg e1_1] at hf
    cases hf
  have hM := ok_X4_put (D := D) (cy := cy) B.2.2.2.2.2.2.2.2 B.2.2.2.2.2.2.1 X _ v1 v2 v3 hq1
  refine sRetC1 (g_runV (o := .inr (some (.int vr1))) (mc := 0) (ms := 0) (k := 0) (T := TX4) (N := 8) B h hM cw_L_7 ⟨Nat.le_of_ble_eq_true rfl, Nat.le_of_ble_eq_true rfl⟩ (by decide) (S_row _) rfl rfl hl.1.symm rfl (Nat.le_of_ble_eq_true rfl) dL_put_7 ⟨Nat.zero_le _, Nat.zero_le _⟩) h (fun H locs h => ?_)
  refine lv_i2l (v := (vr1.toInt64)) hx hb dL_put_10 rfl ?_
  refine g_last B h (i := (0 : Int32)) (inb_in (n := 1) (by decide)) dL_put_11 (fun H locs h => ?_)
  refine lv_goto (tgt := 23) hx hb dL_put_12 (by decide) ?_
  refine lv_iconst (v := (0 : Int32)) hx hb dL_put_23 (by decide) ?_
  obtain ⟨rfl, h2⟩ := Prod.mk.inj (Option.some.inj hf); obtain ⟨rfl, rfl⟩ := Prod.mk.inj h2
  refine W.widen (k := 1) (n := 6) (Nat.zero_le _) (Nat.zero_le _) ?_
  exact sE_i B hr h dL_put_24
set_option maxHeartbeats 4000000 in
set_option maxRecDepth 100000 in
theorem ok_L_remove {l : Launch} (hl0 : l.stackTraces = false) {D : va_G} {cy : Nat → ClassId} {ad : Nat → Nat} (hap : sAp ad) (X : sX) (σ : sM) (v1 : Int32) (v2 : Int32) {r : Int32} {σ' : sM} {X' : sX} (hf : f_L_remove v1 v2 σ X = some (r, σ', X')) : sMet l yL_remove (sWh yL_remove cL_remove 5 (some .int) [(0, 10, 13, 13)]) 8 175 1 6 D cy ad X σ [.ref (ad 0), .int v1, .int v2, .ref (ad 61)] (.inr (some (.int r))) X' σ' := by
  refine sMet_ofH (by decide +kernel) (Nat.le_of_ble_eq_true rfl) hap hl0 ?_
  intro p e s m args below meth c ls B hr htab hl h
  replace hf : (cthn (f_X4_remove v1 v2 σ) (fun E1 σ1 => if E1 = "java/lang/IndexOutOfBoundsException" then (some ((1 : Int32), σ1, X)) else none) (fun vr1 σ1 => some ((0 : Int32), σ1, (vp_updL X.1 ((0 : Int32)).toNatClampNeg (vr1.toInt64), X.2)))) = some (r, σ', X') := hf
  have hx := B.1
  have hb := B.2.1
  refine lv_aload_n hx hb dL_remove_0 rfl (lv_at hl 3 rfl) ?_
  refine lv_iconst (v := (0 : Int32)) hx hb dL_remove_1 (by decide) ?_
  refine lv_aload_n hx hb dL_remove_2 rfl (lv_at hl 0 rfl) ?_
  refine lv_iload_n hx hb dL_remove_3 rfl (lv_at hl 1 rfl) ?_
  refine lv_iload_n hx hb dL_remove_4 rfl (lv_at hl 2 rfl) ?_
  rcases cthn_cases hf with ⟨E1, σ1, hq1, hf⟩ | ⟨vr1, σ1, hq1, hf⟩
  · have hM := ok_X4_remove (D := D) (cy := cy) B.2.2.2.2.2.2.2.2 B.2.2.2.2.2.2.1 X _ v1 v2 hq1
    refine sThrC (g_runV (o := .inl E1) (mc := 1) (ms := 6) (k := 0) (T := TX4) (N := 8) B h hM cw_L_23 ⟨Nat.le_of_ble_eq_true rfl, Nat.le_of_ble_eq_true rfl⟩ (by decide) (S_row _) rfl rfl hl.1.symm rfl (Nat.le_of_ble_eq_true rfl) dL_remove_5 ⟨Nat.le_of_eq (Nat.zero_add _), Nat.le_of_eq (Nat.zero_add _)⟩) h (fun H locs q ce h hc hv hcl => ?_)
    by_cases e1_0 : E1 = "java/lang/IndexOutOfBoundsException"
    · rw [if_pos e1_0] at hf
      subst e1_0
      refine vx_catch (own := RL) (name := "java/lang/IndexOutOfBoundsException") B.2.2.2.1 [] ⟨0, 10, 13, 13⟩ [] (by rw [htab]; rfl) (fun z hz => nomatch hz) rfl (by decide) (B.2.2.2.2.1 _ hw343) (va_Nw.use rfl (B.2.2.2.2.2.1.2.2.2.2.1 _ (by decide +kernel))) hc hv hcl ?_
      refine lv_astore (lv' := [(4, .ref q), (0, .ref (ad 0)), (1, .int v1), (2, .int v2), (3, .ref (ad 61))]) hx hb dL_remove_13 hl (by decide) rfl (fun ls hl => ?_)
      refine lv_iconst (v := (1 : Int32)) hx hb dL_remove_15 (by decide) ?_
      obtain ⟨rfl, h2⟩ := Prod.mk.inj (Option.some.inj hf); obtain ⟨rfl, rfl⟩ := Prod.mk.inj h2
      refine W.widen (k := 1) (n := 6) (Nat.le_refl _) (Nat.le_refl _) ?_
      exact sE_i B hr h dL_remove_16
    rw [if_neg e1_0] at hf
    cases hf
  have hM := ok_X4_remove (D := D) (cy := cy) B.2.2.2.2.2.2.2.2 B.2.2.2.2.2.2.1 X _ v1 v2 hq1
  refine sRetC1 (g_runV (o := .inr (some (.int vr1))) (mc := 0) (ms := 0) (k := 0) (T := TX4) (N := 8) B h hM cw_L_23 ⟨Nat.le_of_ble_eq_true rfl, Nat.le_of_ble_eq_true rfl⟩ (by decide) (S_row _) rfl rfl hl.1.symm rfl (Nat.le_of_ble_eq_true rfl) dL_remove_5 ⟨Nat.zero_le _, Nat.zero_le _⟩) h (fun H locs h => ?_)
  refine lv_i2l (v := (vr1.toInt64)) hx hb dL_remove_8 rfl ?_
  refine g_last B h (i := (0 : Int32)) (inb_in (n := 1) (by decide)) dL_remove_9 (fun H locs h => ?_)
  refine lv_goto (tgt := 17) hx hb dL_remove_10 (by decide) ?_
  refine lv_iconst (v := (0 : Int32)) hx hb dL_remove_17 (by decide) ?_
  obtain ⟨rfl, h2⟩ := Prod.mk.inj (Option.some.inj hf); obtain ⟨rfl, rfl⟩ := Prod.mk.inj h2
  refine W.widen (k := 1) (n := 6) (Nat.zero_le _) (Nat.zero_le _) ?_
  exact sE_i B hr h dL_remove_18
set_option maxHeartbeats 4000000 in
set_option maxRecDepth 100000 in
theorem ok_L_size {l : Launch} (hl0 : l.stackTraces = false) {D : va_G} {cy : Nat → ClassId} {ad : Nat → Nat} (hap : sAp ad) (X : sX) (σ : sM) (v1 : Int32) {r : Int32} {σ' : sM} {X' : sX} (hf : f_L_size v1 σ X = some (r, σ', X')) : sMet l yL_size (sWh yL_size cL_size 4 (some .int) [(0, 9, 12, 13)]) 8 142 1 6 D cy ad X σ [.ref (ad 0), .int v1, .ref (ad 61)] (.inr (some (.int r))) X' σ' := by
  refine sMet_ofH (by decide +kernel) (Nat.le_of_ble_eq_true rfl) hap hl0 ?_
  intro p e s m args below meth c ls B hr htab hl h
  replace hf : (cthn (f_X4_size v1 σ) (fun E1 σ1 => if E1 = "java/lang/IndexOutOfBoundsException" then (some ((1 : Int32), σ1, X)) else none) (fun vr1 σ1 => some ((0 : Int32), σ1, (vp_updL X.1 ((0 : Int32)).toNatClampNeg (vr1.toInt64), X.2)))) = some (r, σ', X') := hf
  have hx := B.1
  have hb := B.2.1
  refine lv_aload_n hx hb dL_size_0 rfl (lv_at hl 2 rfl) ?_
  refine lv_iconst (v := (0 : Int32)) hx hb dL_size_1 (by decide) ?_
  refine lv_aload_n hx hb dL_size_2 rfl (lv_at hl 0 rfl) ?_
  refine lv_iload_n hx hb dL_size_3 rfl (lv_at hl 1 rfl) ?_
  rcases cthn_cases hf with ⟨E1, σ1, hq1, hf⟩ | ⟨vr1, σ1, hq1, hf⟩
  · have hM := ok_X4_size (D := D) (cy := cy) B.2.2.2.2.2.2.2.2 B.2.2.2.2.2.2.1 X _ v1 hq1
    refine sThrC (g_runV (o := .inl E1) (mc := 1) (ms := 6) (k := 0) (T := TX4) (N := 8) B h hM cw_L_50 ⟨Nat.le_of_ble_eq_true rfl, Nat.le_of_ble_eq_true rfl⟩ (by decide) (S_row _) rfl rfl hl.1.symm rfl (Nat.le_of_ble_eq_true rfl) dL_size_4 ⟨Nat.le_of_eq (Nat.zero_add _), Nat.le_of_eq (Nat.zero_add _)⟩) h (fun H locs q ce h hc hv hcl => ?_)
    by_cases e1_0 : E1 = "java/lang/IndexOutOfBoundsException"
    · rw [if_pos e1_0] at hf
      subst e1_0
      refine vx_catch (own := RL) (name := "java/lang/IndexOutOfBoundsException") B.2.2.2.1 [] ⟨0, 9, 12, 13⟩ [] (by rw [htab]; rfl) (fun z hz => nomatch hz) rfl (by decide) (B.2.2.2.2.1 _ hw343) (va_Nw.use rfl (B.2.2.2.2.2.1.2.2.2.2.1 _ (by decide +kernel))) hc hv hcl ?_
      refine lv_astore_n (lv' := [(3, .ref q), (0, .ref (ad 0)), (1, .int v1), (2, .ref (ad 61))]) hx hb dL_size_12 rfl hl (by decide) rfl (fun ls hl => ?_)
      refine lv_iconst (v := (1 : Int32)) hx hb dL_size_13 (by decide) ?_
      obtain ⟨rfl, h2⟩ := Prod.mk.inj (Option.some.inj hf); obtain ⟨rfl, rfl⟩ := Prod.mk.inj h2
      refine W.widen (k := 1) (n := 6) (Nat.le_refl _) (Nat.le_refl _) ?_
      exact sE_i B hr h dL_size_14
    rw [if_neg e1_0] at hf
    cases hf
  have hM := ok_X4_size (D := D) (cy := cy) B.2.2.2.2.2.2.2.2 B.2.2.2.2.2.2.1 X _ v1 hq1
  refine sRetC1 (g_runV (o := .inr (some (.int vr1))) (mc := 0) (ms := 0) (k := 0) (T := TX4) (N := 8) B h hM cw_L_50 ⟨Nat.le_of_ble_eq_true rfl, Nat.le_of_ble_eq_true rfl⟩ (by decide) (S_row _) rfl rfl hl.1.symm rfl (Nat.le_of_ble_eq_true rfl) dL_size_4 ⟨Nat.zero_le _, Nat.zero_le _⟩) h (fun H locs h => ?_)
  refine lv_i2l (v := (vr1.toInt64)) hx hb dL_size_7 rfl ?_
  refine g_last B h (i := (0 : Int32)) (inb_in (n := 1) (by decide)) dL_size_8 (fun H locs h => ?_)
  refine lv_goto (tgt := 15) hx hb dL_size_9 (by decide) ?_
  refine lv_iconst (v := (0 : Int32)) hx hb dL_size_15 (by decide) ?_
  obtain ⟨rfl, h2⟩ := Prod.mk.inj (Option.some.inj hf); obtain ⟨rfl, rfl⟩ := Prod.mk.inj h2
  refine W.widen (k := 1) (n := 6) (Nat.zero_le _) (Nat.zero_le _) ?_
  exact sE_i B hr h dL_size_16
set_option maxHeartbeats 4000000 in
set_option maxRecDepth 100000 in
theorem ok_L_step {l : Launch} (hl0 : l.stackTraces = false) {D : va_G} {cy : Nat → ClassId} {ad : Nat → Nat} (hap : sAp ad) (X : sX) (σ : sM) (v1 : Int32) (v2 : Int32) (v3 : Int32) (v4 : Int32) {r : Int32} {σ' : sM} {X' : sX} (hf : f_L_step v1 v2 v3 v4 σ X = some (r, σ', X')) : sMet l yL_step (sWh yL_step cL_step 7 (some .int) [(0, 14, 17, 13), (0, 14, 21, 30), (0, 14, 25, 15)]) 8 146 1 6 D cy ad X σ [.ref (ad 0), .int v1, .int v2, .int v3, .int v4, .ref (ad 61)] (.inr (some (.int r))) X' σ' := by
  refine sMet_ofH (by decide +kernel) (Nat.le_of_ble_eq_true rfl) hap hl0 ?_
  intro p e s m args below meth c ls B hr htab hl h
  replace hf : (cthn (f_X4_step v1 v2 v3 v4 σ) (fun E1 σ1 => if E1 = "java/lang/IndexOutOfBoundsException" then (some ((1 : Int32), σ1, X)) else if E1 = "java/lang/IllegalArgumentException" then (some ((2 : Int32), σ1, X)) else if E1 = "java/lang/IllegalStateException" then (some ((3 : Int32), σ1, X)) else none) (fun vr1 σ1 => some ((0 : Int32), σ1, (vp_updL X.1 ((0 : Int32)).toNatClampNeg (vr1.toInt64), X.2)))) = some (r, σ', X') := hf
  have hx := B.1
  have hb := B.2.1
  refine lv_aload hx hb dL_step_0 (lv_at hl 5 rfl) ?_
  refine lv_iconst (v := (0 : Int32)) hx hb dL_step_2 (by decide) ?_
  refine lv_aload_n hx hb dL_step_3 rfl (lv_at hl 0 rfl) ?_
  refine lv_iload_n hx hb dL_step_4 rfl (lv_at hl 1 rfl) ?_
  refine lv_iload_n hx hb dL_step_5 rfl (lv_at hl 2 rfl) ?_
  refine lv_iload_n hx hb dL_step_6 rfl (lv_at hl 3 rfl) ?_
  refine lv_iload hx hb dL_step_7 (lv_at hl 4 rfl) ?_
  rcases cthn_cases hf with ⟨E1, σ1, hq1, hf⟩ | ⟨vr1, σ1, hq1, hf⟩
  · have hM := ok_X4_step (D := D) (cy := cy) B.2.2.2.2.2.2.2.2 B.2.2.2.2.2.2.1 X _ v1 v2 v3 v4 hq1
    refine sThrC (g_runV (o := .inl E1) (mc := 1) (ms := 6) (k := 0) (T := TX4) (N := 8) B h hM cw_L_96 ⟨Nat.le_of_ble_eq_true rfl, Nat.le_of_ble_eq_true rfl⟩ (by decide) (S_row _) rfl rfl hl.1.symm rfl (Nat.le_of_ble_eq_true rfl) dL_step_9 ⟨Nat.le_of_eq (Nat.zero_add _), Nat.le_of_eq (Nat.zero_add _)⟩) h (fun H locs q ce h hc hv hcl => ?_)
    by_cases e1_0 : E1 = "java/lang/IndexOutOfBoundsException"
    · rw [if_pos e1_0] at hf
      subst e1_0
      refine vx_catch (own := RL) (name := "java/lang/IndexOutOfBoundsException") B.2.2.2.1 [] ⟨0, 14, 17, 13⟩ [⟨0, 14, 21, 30⟩, ⟨0, 14, 25, 15⟩] (by rw [htab]; rfl) (fun z hz => nomatch hz) rfl (by decide) (B.2.2.2.2.1 _ hw343) (va_Nw.use rfl (B.2.2.2.2.2.1.2.2.2.2.1 _ (by decide +kernel))) hc hv hcl ?_
      refine lv_astore (lv' := [(6, .ref q), (0, .ref (ad 0)), (1, .int v1), (2, .int v2), (3, .int v3), (4, .int v4), (5, .ref (ad 61))]) hx hb dL_step_17 hl (by decide) rfl (fun ls hl => ?_)
      refine lv_iconst (v := (1 : Int32)) hx hb dL_step_19 (by decide) ?_
      obtain ⟨rfl, h2⟩ := Prod.mk.inj (Option.some.inj hf); obtain ⟨rfl, rfl⟩ := Prod.mk.inj h2
      refine W.widen (k := 1) (n := 6) (Nat.le_refl _) (Nat.le_refl _) ?_
      exact sE_i B hr h dL_step_20
    rw [if_neg e1_0] at hf
    by_cases e1_1 : E1 = "java/lang/IllegalArgumentException"
    · rw [if_pos e1_1] at hf
      subst e1_1
      refine vx_catch (own := RL) (name := "java/lang/IllegalArgumentException") B.2.2.2.1 [⟨0, 14, 17, 13⟩] ⟨0, 14, 21, 30⟩ [⟨0, 14, 25, 15⟩] (by rw [htab]; rfl) ((vx_ps B (by decide) hw343 (by decide +kernel) (by decide +kernel) (by decide +kernel) (fun z hz => nomatch hz))) rfl (by decide) (B.2.2.2.2.1 _ hw500) (va_Nw.use rfl (B.2.2.2.2.2.1.2.2.2.2.1 _ (by decide +kernel))) hc hv hcl ?_
      refine lv_astore (lv' := [(6, .ref q), (0, .ref (ad 0)), (1, .int v1), (2, .int v2), (3, .int v3), (4, .int v4), (5, .ref (ad 61))]) hx hb dL_step_21 hl (by decide) rfl (fun ls hl => ?_)
      refine lv_iconst (v := (2 : Int32)) hx hb dL_step_23 (by decide) ?_
      obtain ⟨rfl, h2⟩ := Prod.mk.inj (Option.some.inj hf); obtain ⟨rfl, rfl⟩ := Prod.mk.inj h2
      refine W.widen (k := 1) (n := 6) (Nat.le_refl _) (Nat.le_refl _) ?_
      exact sE_i B hr h dL_step_24
    rw [if_neg e1_1] at hf
    by_cases e1_2 : E1 = "java/lang/IllegalStateException"
    · rw [if_pos e1_2] at hf
      subst e1_2
      refine vx_catch (own := RL) (name := "java/lang/IllegalStateException") B.2.2.2.1 [⟨0, 14, 17, 13⟩, ⟨0, 14, 21, 30⟩] ⟨0, 14, 25, 15⟩ [] (by rw [htab]; rfl) ((vx_ps B (by decide) hw343 (by decide +kernel) (by decide +kernel) (by decide +kernel) (vx_ps B (by decide) hw500 (by decide +kernel) (by decide +kernel) (by decide +kernel) (fun z hz => nomatch hz)))) rfl (by decide) (B.2.2.2.2.1 _ hw422) (va_Nw.use rfl (B.2.2.2.2.2.1.2.2.2.2.1 _ (by decide +kernel))) hc hv hcl ?_
      refine lv_astore (lv' := [(6, .ref q), (0, .ref (ad 0)), (1, .int v1), (2, .int v2), (3, .int v3), (4, .int v4), (5, .ref (ad 61))]) hx hb dL_step_25 hl (by decide) rfl (fun ls hl => ?_)
      refine lv_iconst (v := (3 : Int32)) hx hb dL_step_27 (by decide) ?_
      obtain ⟨rfl, h2⟩ := Prod.mk.inj (Option.some.inj hf); obtain ⟨rfl, rfl⟩ := Prod.mk.inj h2
      refine W.widen (k := 1) (n := 6) (Nat.le_refl _) (Nat.le_refl _) ?_
      exact sE_i B hr h dL_step_28
    rw [if_neg e1_2] at hf
    cases hf
  have hM := ok_X4_step (D := D) (cy := cy) B.2.2.2.2.2.2.2.2 B.2.2.2.2.2.2.1 X _ v1 v2 v3 v4 hq1
  refine sRetC1 (g_runV (o := .inr (some (.int vr1))) (mc := 0) (ms := 0) (k := 0) (T := TX4) (N := 8) B h hM cw_L_96 ⟨Nat.le_of_ble_eq_true rfl, Nat.le_of_ble_eq_true rfl⟩ (by decide) (S_row _) rfl rfl hl.1.symm rfl (Nat.le_of_ble_eq_true rfl) dL_step_9 ⟨Nat.zero_le _, Nat.zero_le _⟩) h (fun H locs h => ?_)
  refine lv_i2l (v := (vr1.toInt64)) hx hb dL_step_12 rfl ?_
  refine g_last B h (i := (0 : Int32)) (inb_in (n := 1) (by decide)) dL_step_13 (fun H locs h => ?_)
  refine lv_goto (tgt := 29) hx hb dL_step_14 (by decide) ?_
  refine lv_iconst (v := (0 : Int32)) hx hb dL_step_29 (by decide) ?_
  obtain ⟨rfl, h2⟩ := Prod.mk.inj (Option.some.inj hf); obtain ⟨rfl, rfl⟩ := Prod.mk.inj h2
  refine W.widen (k := 1) (n := 6) (Nat.zero_le _) (Nat.zero_le _) ?_
  exact sE_i B hr h dL_step_30
set_option maxHeartbeats 4000000 in
set_option maxRecDepth 100000 in
theorem ok_L_value {l : Launch} (hl0 : l.stackTraces = false) {D : va_G} {cy : Nat → ClassId} {ad : Nat → Nat} (hap : sAp ad) (X : sX) (σ : sM) (v1 : Int32) (v2 : Int32) {r : Int32} {σ' : sM} {X' : sX} (hf : f_L_value v1 v2 σ X = some (r, σ', X')) : sMet l yL_value (sWh yL_value cL_value 5 (some .int) [(0, 10, 13, 13), (0, 10, 17, 21)]) 8 145 1 6 D cy ad X σ [.ref (ad 0), .int v1, .int v2, .ref (ad 61)] (.inr (some (.int r))) X' σ' := by
  refine sMet_ofH (by decide +kernel) (Nat.le_of_ble_eq_true rfl) hap hl0 ?_
  intro p e s m args below meth c ls B hr htab hl h
  replace hf : (cthn (f_X4_value v1 v2 σ) (fun E1 σ1 => if E1 = "java/lang/IndexOutOfBoundsException" then (some ((1 : Int32), σ1, X)) else if E1 = "java/util/NoSuchElementException" then (some ((2 : Int32), σ1, X)) else none) (fun vr1 σ1 => some ((0 : Int32), σ1, (vp_updL X.1 ((0 : Int32)).toNatClampNeg (vr1.toInt64), X.2)))) = some (r, σ', X') := hf
  have hx := B.1
  have hb := B.2.1
  refine lv_aload_n hx hb dL_value_0 rfl (lv_at hl 3 rfl) ?_
  refine lv_iconst (v := (0 : Int32)) hx hb dL_value_1 (by decide) ?_
  refine lv_aload_n hx hb dL_value_2 rfl (lv_at hl 0 rfl) ?_
  refine lv_iload_n hx hb dL_value_3 rfl (lv_at hl 1 rfl) ?_
  refine lv_iload_n hx hb dL_value_4 rfl (lv_at hl 2 rfl) ?_
  rcases cthn_cases hf with ⟨E1, σ1, hq1, hf⟩ | ⟨vr1, σ1, hq1, hf⟩
  · have hM := ok_X4_value (D := D) (cy := cy) B.2.2.2.2.2.2.2.2 B.2.2.2.2.2.2.1 X _ v1 v2 hq1
    refine sThrC (g_runV (o := .inl E1) (mc := 1) (ms := 6) (k := 0) (T := TX4) (N := 8) B h hM cw_L_17 ⟨Nat.le_of_ble_eq_true rfl, Nat.le_of_ble_eq_true rfl⟩ (by decide) (S_row _) rfl rfl hl.1.symm rfl (Nat.le_of_ble_eq_true rfl) dL_value_5 ⟨Nat.le_of_eq (Nat.zero_add _), Nat.le_of_eq (Nat.zero_add _)⟩) h (fun H locs q ce h hc hv hcl => ?_)
    by_cases e1_0 : E1 = "java/lang/IndexOutOfBoundsException"
    · rw [if_pos e1_0] at hf
      subst e1_0
      refine vx_catch (own := RL) (name := "java/lang/IndexOutOfBoundsException") B.2.2.2.1 [] ⟨0, 10, 13, 13⟩ [⟨0, 10, 17, 21⟩] (by rw [htab]; rfl) (fun z hz => nomatch hz) rfl (by decide) (B.2.2.2.2.1 _ hw343) (va_Nw.use rfl (B.2.2.2.2.2.1.2.2.2.2.1 _ (by decide +kernel))) hc hv hcl ?_
      refine lv_astore (lv' := [(4, .ref q), (0, .ref (ad 0)), (1, .int v1), (2, .int v2), (3, .ref (ad 61))]) hx hb dL_value_13 hl (by decide) rfl (fun ls hl => ?_)
      refine lv_iconst (v := (1 : Int32)) hx hb dL_value_15 (by decide) ?_
      obtain ⟨rfl, h2⟩ := Prod.mk.inj (Option.some.inj hf); obtain ⟨rfl, rfl⟩ := Prod.mk.inj h2
      refine W.widen (k := 1) (n := 6) (Nat.le_refl _) (Nat.le_refl _) ?_
      exact sE_i B hr h dL_value_16
    rw [if_neg e1_0] at hf
    by_cases e1_1 : E1 = "java/util/NoSuchElementException"
    · rw [if_pos e1_1] at hf
      subst e1_1
      refine vx_catch (own := RL) (name := "java/util/NoSuchElementException") B.2.2.2.1 [⟨0, 10, 13, 13⟩] ⟨0, 10, 17, 21⟩ [] (by rw [htab]; rfl) ((vx_ps B (by decide) hw343 (by decide +kernel) (by decide +kernel) (by decide +kernel) (fun z hz => nomatch hz))) rfl (by decide) (B.2.2.2.2.1 _ hw468) (va_Nw.use rfl (B.2.2.2.2.2.1.2.2.2.2.1 _ (by decide +kernel))) hc hv hcl ?_
      refine lv_astore (lv' := [(4, .ref q), (0, .ref (ad 0)), (1, .int v1), (2, .int v2), (3, .ref (ad 61))]) hx hb dL_value_17 hl (by decide) rfl (fun ls hl => ?_)
      refine lv_iconst (v := (2 : Int32)) hx hb dL_value_19 (by decide) ?_
      obtain ⟨rfl, h2⟩ := Prod.mk.inj (Option.some.inj hf); obtain ⟨rfl, rfl⟩ := Prod.mk.inj h2
      refine W.widen (k := 1) (n := 6) (Nat.le_refl _) (Nat.le_refl _) ?_
      exact sE_i B hr h dL_value_20
    rw [if_neg e1_1] at hf
    cases hf
  have hM := ok_X4_value (D := D) (cy := cy) B.2.2.2.2.2.2.2.2 B.2.2.2.2.2.2.1 X _ v1 v2 hq1
  refine sRetC1 (g_runV (o := .inr (some (.int vr1))) (mc := 0) (ms := 0) (k := 0) (T := TX4) (N := 8) B h hM cw_L_17 ⟨Nat.le_of_ble_eq_true rfl, Nat.le_of_ble_eq_true rfl⟩ (by decide) (S_row _) rfl rfl hl.1.symm rfl (Nat.le_of_ble_eq_true rfl) dL_value_5 ⟨Nat.zero_le _, Nat.zero_le _⟩) h (fun H locs h => ?_)
  refine lv_i2l (v := (vr1.toInt64)) hx hb dL_value_8 rfl ?_
  refine g_last B h (i := (0 : Int32)) (inb_in (n := 1) (by decide)) dL_value_9 (fun H locs h => ?_)
  refine lv_goto (tgt := 21) hx hb dL_value_10 (by decide) ?_
  refine lv_iconst (v := (0 : Int32)) hx hb dL_value_21 (by decide) ?_
  obtain ⟨rfl, h2⟩ := Prod.mk.inj (Option.some.inj hf); obtain ⟨rfl, rfl⟩ := Prod.mk.inj h2
  refine W.widen (k := 1) (n := 6) (Nat.zero_le _) (Nat.zero_le _) ?_
  exact sE_i B hr h dL_value_22
set_option maxHeartbeats 4000000 in
set_option maxRecDepth 100000 in
theorem ok_L_viewClear {l : Launch} (hl0 : l.stackTraces = false) {D : va_G} {cy : Nat → ClassId} {ad : Nat → Nat} (hap : sAp ad) (X : sX) (σ : sM) (v1 : Int32) {r : Int32} {σ' : sM} {X' : sX} (hf : f_L_viewClear v1 σ X = some (r, σ', X')) : sMet l yL_viewClear (sWh yL_viewClear cL_viewClear 4 (some .int) [(0, 9, 12, 13), (0, 9, 15, 21)]) 9 164 1 6 D cy ad X σ [.ref (ad 0), .int v1, .ref (ad 61)] (.inr (some (.int r))) X' σ' := by
  refine sMet_ofH (by decide +kernel) (Nat.le_of_ble_eq_true rfl) hap hl0 ?_
  intro p e s m args below meth c ls B hr htab hl h
  replace hf : (cthn (f_X4_viewClear v1 σ) (fun E1 σ1 => if E1 = "java/lang/IndexOutOfBoundsException" then (some ((1 : Int32), σ1, X)) else if E1 = "java/util/NoSuchElementException" then (some ((2 : Int32), σ1, X)) else none) (fun vr1 σ1 => some ((0 : Int32), σ1, (vp_updL X.1 ((0 : Int32)).toNatClampNeg (vr1.toInt64), X.2)))) = some (r, σ', X') := hf
  have hx := B.1
  have hb := B.2.1
  refine lv_aload_n hx hb dL_viewClear_0 rfl (lv_at hl 2 rfl) ?_
  refine lv_iconst (v := (0 : Int32)) hx hb dL_viewClear_1 (by decide) ?_
  refine lv_aload_n hx hb dL_viewClear_2 rfl (lv_at hl 0 rfl) ?_
  refine lv_iload_n hx hb dL_viewClear_3 rfl (lv_at hl 1 rfl) ?_
  rcases cthn_cases hf with ⟨E1, σ1, hq1, hf⟩ | ⟨vr1, σ1, hq1, hf⟩
  · have hM := ok_X4_viewClear (D := D) (cy := cy) B.2.2.2.2.2.2.2.2 B.2.2.2.2.2.2.1 X _ v1 hq1
    refine sThrC (g_runV (o := .inl E1) (mc := 1) (ms := 6) (k := 0) (T := TX4) (N := 8) B h hM cw_L_87 ⟨Nat.le_of_ble_eq_true rfl, Nat.le_of_ble_eq_true rfl⟩ (by decide) (S_row _) rfl rfl hl.1.symm rfl (Nat.le_of_ble_eq_true rfl) dL_viewClear_4 ⟨Nat.le_of_eq (Nat.zero_add _), Nat.le_of_eq (Nat.zero_add _)⟩) h (fun H locs q ce h hc hv hcl => ?_)
    by_cases e1_0 : E1 = "java/lang/IndexOutOfBoundsException"
    · rw [if_pos e1_0] at hf
      subst e1_0
      refine vx_catch (own := RL) (name := "java/lang/IndexOutOfBoundsException") B.2.2.2.1 [] ⟨0, 9, 12, 13⟩ [⟨0, 9, 15, 21⟩] (by rw [htab]; rfl) (fun z hz => nomatch hz) rfl (by decide) (B.2.2.2.2.1 _ hw343) (va_Nw.use rfl (B.2.2.2.2.2.1.2.2.2.2.1 _ (by decide +kernel))) hc hv hcl ?_
      refine lv_astore_n (lv' := [(3, .ref q), (0, .ref (ad 0)), (1, .int v1), (2, .ref (ad 61))]) hx hb dL_viewClear_12 rfl hl (by decide) rfl (fun ls hl => ?_)
      refine lv_iconst (v := (1 : Int32)) hx hb dL_viewClear_13 (by decide) ?_
      obtain ⟨rfl, h2⟩ := Prod.mk.inj (Option.some.inj hf); obtain ⟨rfl, rfl⟩ := Prod.mk.inj h2
      refine W.widen (k := 1) (n := 6) (Nat.le_refl _) (Nat.le_refl _) ?_
      exact sE_i B hr h dL_viewClear_14
    rw [if_neg e1_0] at hf
    by_cases e1_1 : E1 = "java/util/NoSuchElementException"
    · rw [if_pos e1_1] at hf
      subst e1_1
      refine vx_catch (own := RL) (name := "java/util/NoSuchElementException") B.2.2.2.1 [⟨0, 9, 12, 13⟩] ⟨0, 9, 15, 21⟩ [] (by rw [htab]; rfl) ((vx_ps B (by decide) hw343 (by decide +kernel) (by decide +kernel) (by decide +kernel) (fun z hz => nomatch hz))) rfl (by decide) (B.2.2.2.2.1 _ hw468) (va_Nw.use rfl (B.2.2.2.2.2.1.2.2.2.2.1 _ (by decide +kernel))) hc hv hcl ?_
      refine lv_astore_n (lv' := [(3, .ref q), (0, .ref (ad 0)), (1, .int v1), (2, .ref (ad 61))]) hx hb dL_viewClear_15 rfl hl (by decide) rfl (fun ls hl => ?_)
      refine lv_iconst (v := (2 : Int32)) hx hb dL_viewClear_16 (by decide) ?_
      obtain ⟨rfl, h2⟩ := Prod.mk.inj (Option.some.inj hf); obtain ⟨rfl, rfl⟩ := Prod.mk.inj h2
      refine W.widen (k := 1) (n := 6) (Nat.le_refl _) (Nat.le_refl _) ?_
      exact sE_i B hr h dL_viewClear_17
    rw [if_neg e1_1] at hf
    cases hf
  have hM := ok_X4_viewClear (D := D) (cy := cy) B.2.2.2.2.2.2.2.2 B.2.2.2.2.2.2.1 X _ v1 hq1
  refine sRetC1 (g_runV (o := .inr (some (.int vr1))) (mc := 0) (ms := 0) (k := 0) (T := TX4) (N := 8) B h hM cw_L_87 ⟨Nat.le_of_ble_eq_true rfl, Nat.le_of_ble_eq_true rfl⟩ (by decide) (S_row _) rfl rfl hl.1.symm rfl (Nat.le_of_ble_eq_true rfl) dL_viewClear_4 ⟨Nat.zero_le _, Nat.zero_le _⟩) h (fun H locs h => ?_)
  refine lv_i2l (v := (vr1.toInt64)) hx hb dL_viewClear_7 rfl ?_
  refine g_last B h (i := (0 : Int32)) (inb_in (n := 1) (by decide)) dL_viewClear_8 (fun H locs h => ?_)
  refine lv_goto (tgt := 18) hx hb dL_viewClear_9 (by decide) ?_
  refine lv_iconst (v := (0 : Int32)) hx hb dL_viewClear_18 (by decide) ?_
  obtain ⟨rfl, h2⟩ := Prod.mk.inj (Option.some.inj hf); obtain ⟨rfl, rfl⟩ := Prod.mk.inj h2
  refine W.widen (k := 1) (n := 6) (Nat.zero_le _) (Nat.zero_le _) ?_
  exact sE_i B hr h dL_viewClear_19
set_option maxHeartbeats 4000000 in
set_option maxRecDepth 100000 in
theorem ok_L_viewEnd {l : Launch} (hl0 : l.stackTraces = false) {D : va_G} {cy : Nat → ClassId} {ad : Nat → Nat} (hap : sAp ad) (X : sX) (σ : sM) (v1 : Int32) (v2 : Int32) {r : Int32} {σ' : sM} {X' : sX} (hf : f_L_viewEnd v1 v2 σ X = some (r, σ', X')) : sMet l yL_viewEnd (sWh yL_viewEnd cL_viewEnd 5 (some .int) [(0, 10, 13, 13), (0, 10, 17, 21)]) 9 164 1 6 D cy ad X σ [.ref (ad 0), .int v1, .int v2, .ref (ad 61)] (.inr (some (.int r))) X' σ' := by
  refine sMet_ofH (by decide +kernel) (Nat.le_of_ble_eq_true rfl) hap hl0 ?_
  intro p e s m args below meth c ls B hr htab hl h
  replace hf : (cthn (f_X4_viewEnd v1 v2 σ) (fun E1 σ1 => if E1 = "java/lang/IndexOutOfBoundsException" then (some ((1 : Int32), σ1, X)) else if E1 = "java/util/NoSuchElementException" then (some ((2 : Int32), σ1, X)) else none) (fun vr1 σ1 => some ((0 : Int32), σ1, (vp_updL X.1 ((0 : Int32)).toNatClampNeg (vr1.toInt64), X.2)))) = some (r, σ', X') := hf
  have hx := B.1
  have hb := B.2.1
  refine lv_aload_n hx hb dL_viewEnd_0 rfl (lv_at hl 3 rfl) ?_
  refine lv_iconst (v := (0 : Int32)) hx hb dL_viewEnd_1 (by decide) ?_
  refine lv_aload_n hx hb dL_viewEnd_2 rfl (lv_at hl 0 rfl) ?_
  refine lv_iload_n hx hb dL_viewEnd_3 rfl (lv_at hl 1 rfl) ?_
  refine lv_iload_n hx hb dL_viewEnd_4 rfl (lv_at hl 2 rfl) ?_
  rcases cthn_cases hf with ⟨E1, σ1, hq1, hf⟩ | ⟨vr1, σ1, hq1, hf⟩
  · have hM := ok_X4_viewEnd (D := D) (cy := cy) B.2.2.2.2.2.2.2.2 B.2.2.2.2.2.2.1 X _ v1 v2 hq1
    refine sThrC (g_runV (o := .inl E1) (mc := 1) (ms := 6) (k := 0) (T := TX4) (N := 8) B h hM cw_L_81 ⟨Nat.le_of_ble_eq_true rfl, Nat.le_of_ble_eq_true rfl⟩ (by decide) (S_row _) rfl rfl hl.1.symm rfl (Nat.le_of_ble_eq_true rfl) dL_viewEnd_5 ⟨Nat.le_of_eq (Nat.zero_add _), Nat.le_of_eq (Nat.zero_add _)⟩) h (fun H locs q ce h hc hv hcl => ?_)
    by_cases e1_0 : E1 = "java/lang/IndexOutOfBoundsException"
    · rw [if_pos e1_0] at hf
      subst e1_0
      refine vx_catch (own := RL) (name := "java/lang/IndexOutOfBoundsException") B.2.2.2.1 [] ⟨0, 10, 13, 13⟩ [⟨0, 10, 17, 21⟩] (by rw [htab]; rfl) (fun z hz => nomatch hz) rfl (by decide) (B.2.2.2.2.1 _ hw343) (va_Nw.use rfl (B.2.2.2.2.2.1.2.2.2.2.1 _ (by decide +kernel))) hc hv hcl ?_
      refine lv_astore (lv' := [(4, .ref q), (0, .ref (ad 0)), (1, .int v1), (2, .int v2), (3, .ref (ad 61))]) hx hb dL_viewEnd_13 hl (by decide) rfl (fun ls hl => ?_)
      refine lv_iconst (v := (1 : Int32)) hx hb dL_viewEnd_15 (by decide) ?_
      obtain ⟨rfl, h2⟩ := Prod.mk.inj (Option.some.inj hf); obtain ⟨rfl, rfl⟩ := Prod.mk.inj h2
      refine W.widen (k := 1) (n := 6) (Nat.le_refl _) (Nat.le_refl _) ?_
      exact sE_i B hr h dL_viewEnd_16
    rw [if_neg e1_0] at hf
    by_cases e1_1 : E1 = "java/util/NoSuchElementException"
    · rw [if_pos e1_1] at hf
      subst e1_1
      refine vx_catch (own := RL) (name := "java/util/NoSuchElementException") B.2.2.2.1 [⟨0, 10, 13, 13⟩] ⟨0, 10, 17, 21⟩ [] (by rw [htab]; rfl) ((vx_ps B (by decide) hw343 (by decide +kernel) (by decide +kernel) (by decide +kernel) (fun z hz => nomatch hz))) rfl (by decide) (B.2.2.2.2.1 _ hw468) (va_Nw.use rfl (B.2.2.2.2.2.1.2.2.2.2.1 _ (by decide +kernel))) hc hv hcl ?_
      refine lv_astore (lv' := [(4, .ref q), (0, .ref (ad 0)), (1, .int v1), (2, .int v2), (3, .ref (ad 61))]) hx hb dL_viewEnd_17 hl (by decide) rfl (fun ls hl => ?_)
      refine lv_iconst (v := (2 : Int32)) hx hb dL_viewEnd_19 (by decide) ?_
      obtain ⟨rfl, h2⟩ := Prod.mk.inj (Option.some.inj hf); obtain ⟨rfl, rfl⟩ := Prod.mk.inj h2
      refine W.widen (k := 1) (n := 6) (Nat.le_refl _) (Nat.le_refl _) ?_
      exact sE_i B hr h dL_viewEnd_20
    rw [if_neg e1_1] at hf
    cases hf
  have hM := ok_X4_viewEnd (D := D) (cy := cy) B.2.2.2.2.2.2.2.2 B.2.2.2.2.2.2.1 X _ v1 v2 hq1
  refine sRetC1 (g_runV (o := .inr (some (.int vr1))) (mc := 0) (ms := 0) (k := 0) (T := TX4) (N := 8) B h hM cw_L_81 ⟨Nat.le_of_ble_eq_true rfl, Nat.le_of_ble_eq_true rfl⟩ (by decide) (S_row _) rfl rfl hl.1.symm rfl (Nat.le_of_ble_eq_true rfl) dL_viewEnd_5 ⟨Nat.zero_le _, Nat.zero_le _⟩) h (fun H locs h => ?_)
  refine lv_i2l (v := (vr1.toInt64)) hx hb dL_viewEnd_8 rfl ?_
  refine g_last B h (i := (0 : Int32)) (inb_in (n := 1) (by decide)) dL_viewEnd_9 (fun H locs h => ?_)
  refine lv_goto (tgt := 21) hx hb dL_viewEnd_10 (by decide) ?_
  refine lv_iconst (v := (0 : Int32)) hx hb dL_viewEnd_21 (by decide) ?_
  obtain ⟨rfl, h2⟩ := Prod.mk.inj (Option.some.inj hf); obtain ⟨rfl, rfl⟩ := Prod.mk.inj h2
  refine W.widen (k := 1) (n := 6) (Nat.zero_le _) (Nat.zero_le _) ?_
  exact sE_i B hr h dL_viewEnd_22
set_option maxHeartbeats 4000000 in
set_option maxRecDepth 100000 in
theorem ok_L_viewNear {l : Launch} (hl0 : l.stackTraces = false) {D : va_G} {cy : Nat → ClassId} {ad : Nat → Nat} (hap : sAp ad) (X : sX) (σ : sM) (v1 : Int32) (v2 : Int32) (v3 : Int32) {r : Int32} {σ' : sM} {X' : sX} (hf : f_L_viewNear v1 v2 v3 σ X = some (r, σ', X')) : sMet l yL_viewNear (sWh yL_viewNear cL_viewNear 6 (some .int) [(0, 12, 15, 13), (0, 12, 19, 30), (0, 12, 23, 21)]) 9 166 1 6 D cy ad X σ [.ref (ad 0), .int v1, .int v2, .int v3, .ref (ad 61)] (.inr (some (.int r))) X' σ' := by
  refine sMet_ofH (by decide +kernel) (Nat.le_of_ble_eq_true rfl) hap hl0 ?_
  intro p e s m args below meth c ls B hr htab hl h
  replace hf : (cthn (f_X4_viewNear v1 v2 v3 σ) (fun E1 σ1 => if E1 = "java/lang/IndexOutOfBoundsException" then (some ((1 : Int32), σ1, X)) else if E1 = "java/lang/IllegalArgumentException" then (some ((2 : Int32), σ1, X)) else if E1 = "java/util/NoSuchElementException" then (some ((3 : Int32), σ1, X)) else none) (fun vr1 σ1 => some ((0 : Int32), σ1, (vp_updL X.1 ((0 : Int32)).toNatClampNeg (vr1.toInt64), X.2)))) = some (r, σ', X') := hf
  have hx := B.1
  have hb := B.2.1
  refine lv_aload hx hb dL_viewNear_0 (lv_at hl 4 rfl) ?_
  refine lv_iconst (v := (0 : Int32)) hx hb dL_viewNear_2 (by decide) ?_
  refine lv_aload_n hx hb dL_viewNear_3 rfl (lv_at hl 0 rfl) ?_
  refine lv_iload_n hx hb dL_viewNear_4 rfl (lv_at hl 1 rfl) ?_
  refine lv_iload_n hx hb dL_viewNear_5 rfl (lv_at hl 2 rfl) ?_
  refine lv_iload_n hx hb dL_viewNear_6 rfl (lv_at hl 3 rfl) ?_
  rcases cthn_cases hf with ⟨E1, σ1, hq1, hf⟩ | ⟨vr1, σ1, hq1, hf⟩
  · have hM := ok_X4_viewNear (D := D) (cy := cy) B.2.2.2.2.2.2.2.2 B.2.2.2.2.2.2.1 X _ v1 v2 v3 hq1
    refine sThrC (g_runV (o := .inl E1) (mc := 1) (ms := 6) (k := 0) (T := TX4) (N := 8) B h hM cw_L_78 ⟨Nat.le_of_ble_eq_true rfl, Nat.le_of_ble_eq_true rfl⟩ (by decide) (S_row _) rfl rfl hl.1.symm rfl (Nat.le_of_ble_eq_true rfl) dL_viewNear_7 ⟨Nat.le_of_eq (Nat.zero_add _), Nat.le_of_eq (Nat.zero_add _)⟩) h (fun H locs q ce h hc hv hcl => ?_)
    by_cases e1_0 : E1 = "java/lang/IndexOutOfBoundsException"
    · rw [if_pos e1_0] at hf
      subst e1_0
      refine vx_catch (own := RL) (name := "java/lang/IndexOutOfBoundsException") B.2.2.2.1 [] ⟨0, 12, 15, 13⟩ [⟨0, 12, 19, 30⟩, ⟨0, 12, 23, 21⟩] (by rw [htab]; rfl) (fun z hz => nomatch hz) rfl (by decide) (B.2.2.2.2.1 _ hw343) (va_Nw.use rfl (B.2.2.2.2.2.1.2.2.2.2.1 _ (by decide +kernel))) hc hv hcl ?_
      refine lv_astore (lv' := [(5, .ref q), (0, .ref (ad 0)), (1, .int v1), (2, .int v2), (3, .int v3), (4, .ref (ad 61))]) hx hb dL_viewNear_15 hl (by decide) rfl (fun ls hl => ?_)
      refine lv_iconst (v := (1 : Int32)) hx hb dL_viewNear_17 (by decide) ?_
      obtain ⟨rfl, h2⟩ := Prod.mk.inj (Option.some.inj hf); obtain ⟨rfl, rfl⟩ := Prod.mk.inj h2
      refine W.widen (k := 1) (n := 6) (Nat.le_refl _) (Nat.le_refl _) ?_
      exact sE_i B hr h dL_viewNear_18
    rw [if_neg e1_0] at hf
    by_cases e1_1 : E1 = "java/lang/IllegalArgumentException"
    · rw [if_pos e1_1] at hf
      subst e1_1
      refine vx_catch (own := RL) (name := "java/lang/IllegalArgumentException") B.2.2.2.1 [⟨0, 12, 15, 13⟩] ⟨0, 12, 19, 30⟩ [⟨0, 12, 23, 21⟩] (by rw [htab]; rfl) ((vx_ps B (by decide) hw343 (by decide +kernel) (by decide +kernel) (by decide +kernel) (fun z hz => nomatch hz))) rfl (by decide) (B.2.2.2.2.1 _ hw500) (va_Nw.use rfl (B.2.2.2.2.2.1.2.2.2.2.1 _ (by decide +kernel))) hc hv hcl ?_
      refine lv_astore (lv' := [(5, .ref q), (0, .ref (ad 0)), (1, .int v1), (2, .int v2), (3, .int v3), (4, .ref (ad 61))]) hx hb dL_viewNear_19 hl (by decide) rfl (fun ls hl => ?_)
      refine lv_iconst (v := (2 : Int32)) hx hb dL_viewNear_21 (by decide) ?_
      obtain ⟨rfl, h2⟩ := Prod.mk.inj (Option.some.inj hf); obtain ⟨rfl, rfl⟩ := Prod.mk.inj h2
      refine W.widen (k := 1) (n := 6) (Nat.le_refl _) (Nat.le_refl _) ?_
      exact sE_i B hr h dL_viewNear_22
    rw [if_neg e1_1] at hf
    by_cases e1_2 : E1 = "java/util/NoSuchElementException"
    · rw [if_pos e1_2] at hf
      subst e1_2
      refine vx_catch (own := RL) (name := "java/util/NoSuchElementException") B.2.2.2.1 [⟨0, 12, 15, 13⟩, ⟨0, 12, 19, 30⟩] ⟨0, 12, 23, 21⟩ [] (by rw [htab]; rfl) ((vx_ps B (by decide) hw343 (by decide +kernel) (by decide +kernel) (by decide +kernel) (vx_ps B (by decide) hw500 (by decide +kernel) (by decide +kernel) (by decide +kernel) (fun z hz => nomatch hz)))) rfl (by decide) (B.2.2.2.2.1 _ hw468) (va_Nw.use rfl (B.2.2.2.2.2.1.2.2.2.2.1 _ (by decide +kernel))) hc hv hcl ?_
      refine lv_astore (lv' := [(5, .ref q), (0, .ref (ad 0)), (1, .int v1), (2, .int v2), (3, .int v3), (4, .ref (ad 61))]) hx hb dL_viewNear_23 hl (by decide) rfl (fun ls hl => ?_)
      refine lv_iconst (v := (3 : Int32)) hx hb dL_viewNear_25 (by decide) ?_
      obtain ⟨rfl, h2⟩ := Prod.mk.inj (Option.some.inj hf); obtain ⟨rfl, rfl⟩ := Prod.mk.inj h2
      refine W.widen (k := 1) (n := 6) (Nat.le_refl _) (Nat.le_refl _) ?_
      exact sE_i B hr h dL_viewNear_26
    rw [if_neg e1_2] at hf
    cases hf
  have hM := ok_X4_viewNear (D := D) (cy := cy) B.2.2.2.2.2.2.2.2 B.2.2.2.2.2.2.1 X _ v1 v2 v3 hq1
  refine sRetC1 (g_runV (o := .inr (some (.int vr1))) (mc := 0) (ms := 0) (k := 0) (T := TX4) (N := 8) B h hM cw_L_78 ⟨Nat.le_of_ble_eq_true rfl, Nat.le_of_ble_eq_true rfl⟩ (by decide) (S_row _) rfl rfl hl.1.symm rfl (Nat.le_of_ble_eq_true rfl) dL_viewNear_7 ⟨Nat.zero_le _, Nat.zero_le _⟩) h (fun H locs h => ?_)
  refine lv_i2l (v := (vr1.toInt64)) hx hb dL_viewNear_10 rfl ?_
  refine g_last B h (i := (0 : Int32)) (inb_in (n := 1) (by decide)) dL_viewNear_11 (fun H locs h => ?_)
  refine lv_goto (tgt := 27) hx hb dL_viewNear_12 (by decide) ?_
  refine lv_iconst (v := (0 : Int32)) hx hb dL_viewNear_27 (by decide) ?_
  obtain ⟨rfl, h2⟩ := Prod.mk.inj (Option.some.inj hf); obtain ⟨rfl, rfl⟩ := Prod.mk.inj h2
  refine W.widen (k := 1) (n := 6) (Nat.zero_le _) (Nat.zero_le _) ?_
  exact sE_i B hr h dL_viewNear_28
set_option maxHeartbeats 4000000 in
set_option maxRecDepth 100000 in
theorem ok_L_viewPoll {l : Launch} (hl0 : l.stackTraces = false) {D : va_G} {cy : Nat → ClassId} {ad : Nat → Nat} (hap : sAp ad) (X : sX) (σ : sM) (v1 : Int32) (v2 : Int32) {r : Int32} {σ' : sM} {X' : sX} (hf : f_L_viewPoll v1 v2 σ X = some (r, σ', X')) : sMet l yL_viewPoll (sWh yL_viewPoll cL_viewPoll 5 (some .int) [(0, 10, 13, 13), (0, 10, 17, 21)]) 9 177 1 6 D cy ad X σ [.ref (ad 0), .int v1, .int v2, .ref (ad 61)] (.inr (some (.int r))) X' σ' := by
  refine sMet_ofH (by decide +kernel) (Nat.le_of_ble_eq_true rfl) hap hl0 ?_
  intro p e s m args below meth c ls B hr htab hl h
  replace hf : (cthn (f_X4_viewPoll v1 v2 σ) (fun E1 σ1 => if E1 = "java/lang/IndexOutOfBoundsException" then (some ((1 : Int32), σ1, X)) else if E1 = "java/util/NoSuchElementException" then (some ((2 : Int32), σ1, X)) else none) (fun vr1 σ1 => some ((0 : Int32), σ1, (vp_updL X.1 ((0 : Int32)).toNatClampNeg (vr1.toInt64), X.2)))) = some (r, σ', X') := hf
  have hx := B.1
  have hb := B.2.1
  refine lv_aload_n hx hb dL_viewPoll_0 rfl (lv_at hl 3 rfl) ?_
  refine lv_iconst (v := (0 : Int32)) hx hb dL_viewPoll_1 (by decide) ?_
  refine lv_aload_n hx hb dL_viewPoll_2 rfl (lv_at hl 0 rfl) ?_
  refine lv_iload_n hx hb dL_viewPoll_3 rfl (lv_at hl 1 rfl) ?_
  refine lv_iload_n hx hb dL_viewPoll_4 rfl (lv_at hl 2 rfl) ?_
  rcases cthn_cases hf with ⟨E1, σ1, hq1, hf⟩ | ⟨vr1, σ1, hq1, hf⟩
  · have hM := ok_X4_viewPoll (D := D) (cy := cy) B.2.2.2.2.2.2.2.2 B.2.2.2.2.2.2.1 X _ v1 v2 hq1
    refine sThrC (g_runV (o := .inl E1) (mc := 1) (ms := 6) (k := 0) (T := TX4) (N := 8) B h hM cw_L_84 ⟨Nat.le_of_ble_eq_true rfl, Nat.le_of_ble_eq_true rfl⟩ (by decide) (S_row _) rfl rfl hl.1.symm rfl (Nat.le_of_ble_eq_true rfl) dL_viewPoll_5 ⟨Nat.le_of_eq (Nat.zero_add _), Nat.le_of_eq (Nat.zero_add _)⟩) h (fun H locs q ce h hc hv hcl => ?_)
    by_cases e1_0 : E1 = "java/lang/IndexOutOfBoundsException"
    · rw [if_pos e1_0] at hf
      subst e1_0
      refine vx_catch (own := RL) (name := "java/lang/IndexOutOfBoundsException") B.2.2.2.1 [] ⟨0, 10, 13, 13⟩ [⟨0, 10, 17, 21⟩] (by rw [htab]; rfl) (fun z hz => nomatch hz) rfl (by decide) (B.2.2.2.2.1 _ hw343) (va_Nw.use rfl (B.2.2.2.2.2.1.2.2.2.2.1 _ (by decide +kernel))) hc hv hcl ?_
      refine lv_astore (lv' := [(4, .ref q), (0, .ref (ad 0)), (1, .int v1), (2, .int v2), (3, .ref (ad 61))]) hx hb dL_viewPoll_13 hl (by decide) rfl (fun ls hl => ?_)
      refine lv_iconst (v := (1 : Int32)) hx hb dL_viewPoll_15 (by decide) ?_
      obtain ⟨rfl, h2⟩ := Prod.mk.inj (Option.some.inj hf); obtain ⟨rfl, rfl⟩ := Prod.mk.inj h2
      refine W.widen (k := 1) (n := 6) (Nat.le_refl _) (Nat.le_refl _) ?_
      exact sE_i B hr h dL_viewPoll_16
    rw [if_neg e1_0] at hf
    by_cases e1_1 : E1 = "java/util/NoSuchElementException"
    · rw [if_pos e1_1] at hf
      subst e1_1
      refine vx_catch (own := RL) (name := "java/util/NoSuchElementException") B.2.2.2.1 [⟨0, 10, 13, 13⟩] ⟨0, 10, 17, 21⟩ [] (by rw [htab]; rfl) ((vx_ps B (by decide) hw343 (by decide +kernel) (by decide +kernel) (by decide +kernel) (fun z hz => nomatch hz))) rfl (by decide) (B.2.2.2.2.1 _ hw468) (va_Nw.use rfl (B.2.2.2.2.2.1.2.2.2.2.1 _ (by decide +kernel))) hc hv hcl ?_
      refine lv_astore (lv' := [(4, .ref q), (0, .ref (ad 0)), (1, .int v1), (2, .int v2), (3, .ref (ad 61))]) hx hb dL_viewPoll_17 hl (by decide) rfl (fun ls hl => ?_)
      refine lv_iconst (v := (2 : Int32)) hx hb dL_viewPoll_19 (by decide) ?_
      obtain ⟨rfl, h2⟩ := Prod.mk.inj (Option.some.inj hf); obtain ⟨rfl, rfl⟩ := Prod.mk.inj h2
      refine W.widen (k := 1) (n := 6) (Nat.le_refl _) (Nat.le_refl _) ?_
      exact sE_i B hr h dL_viewPoll_20
    rw [if_neg e1_1] at hf
    cases hf
  have hM := ok_X4_viewPoll (D := D) (cy := cy) B.2.2.2.2.2.2.2.2 B.2.2.2.2.2.2.1 X _ v1 v2 hq1
  refine sRetC1 (g_runV (o := .inr (some (.int vr1))) (mc := 0) (ms := 0) (k := 0) (T := TX4) (N := 8) B h hM cw_L_84 ⟨Nat.le_of_ble_eq_true rfl, Nat.le_of_ble_eq_true rfl⟩ (by decide) (S_row _) rfl rfl hl.1.symm rfl (Nat.le_of_ble_eq_true rfl) dL_viewPoll_5 ⟨Nat.zero_le _, Nat.zero_le _⟩) h (fun H locs h => ?_)
  refine lv_i2l (v := (vr1.toInt64)) hx hb dL_viewPoll_8 rfl ?_
  refine g_last B h (i := (0 : Int32)) (inb_in (n := 1) (by decide)) dL_viewPoll_9 (fun H locs h => ?_)
  refine lv_goto (tgt := 21) hx hb dL_viewPoll_10 (by decide) ?_
  refine lv_iconst (v := (0 : Int32)) hx hb dL_viewPoll_21 (by decide) ?_
  obtain ⟨rfl, h2⟩ := Prod.mk.inj (Option.some.inj hf); obtain ⟨rfl, rfl⟩ := Prod.mk.inj h2
  refine W.widen (k := 1) (n := 6) (Nat.zero_le _) (Nat.zero_le _) ?_
  exact sE_i B hr h dL_viewPoll_22
set_option maxHeartbeats 4000000 in
set_option maxRecDepth 100000 in
theorem ok_L_viewPut {l : Launch} (hl0 : l.stackTraces = false) {D : va_G} {cy : Nat → ClassId} {ad : Nat → Nat} (hap : sAp ad) (X : sX) (σ : sM) (v1 : Int32) (v2 : Int32) (v3 : Int32) {r : Int32} {σ' : sM} {X' : sX} (hf : f_L_viewPut v1 v2 v3 σ X = some (r, σ', X')) : sMet l yL_viewPut (sWh yL_viewPut cL_viewPut 6 (some .int) [(0, 12, 15, 13), (0, 12, 19, 21), (0, 12, 23, 30), (0, 12, 27, 15)]) 9 179 1 6 D cy ad X σ [.ref (ad 0), .int v1, .int v2, .int v3, .ref (ad 61)] (.inr (some (.int r))) X' σ' := by
  refine sMet_ofH (by decide +kernel) (Nat.le_of_ble_eq_true rfl) hap hl0 ?_
  intro p e s m args below meth c ls B hr htab hl h
  replace hf : (cthn (f_X4_viewPut v1 v2 v3 σ) (fun E1 σ1 => if E1 = "java/lang/IndexOutOfBoundsException" then (some ((1 : Int32), σ1, X)) else if E1 = "java/util/NoSuchElementException" then (some ((2 : Int32), σ1, X)) else if E1 = "java/lang/IllegalArgumentException" then (some ((3 : Int32), σ1, X)) else if E1 = "java/lang/IllegalStateException" then (some ((4 : Int32), σ1, X)) else none) (fun vr1 σ1 => some ((0 : Int32), σ1, (vp_updL X.1 ((0 : Int32)).toNatClampNeg (vr1.toInt64), X.2)))) = some (r, σ', X') := hf
  have hx := B.1
  have hb := B.2.1
  refine lv_aload hx hb dL_viewPut_0 (lv_at hl 4 rfl) ?_
  refine lv_iconst (v := (0 : Int32)) hx hb dL_viewPut_2 (by decide) ?_
  refine lv_aload_n hx hb dL_viewPut_3 rfl (lv_at hl 0 rfl) ?_
  refine lv_iload_n hx hb dL_viewPut_4 rfl (lv_at hl 1 rfl) ?_
  refine lv_iload_n hx hb dL_viewPut_5 rfl (lv_at hl 2 rfl) ?_
  refine lv_iload_n hx hb dL_viewPut_6 rfl (lv_at hl 3 rfl) ?_
  rcases cthn_cases hf with ⟨E1, σ1, hq1, hf⟩ | ⟨vr1, σ1, hq1, hf⟩
  · have hM := ok_X4_viewPut (D := D) (cy := cy) B.2.2.2.2.2.2.2.2 B.2.2.2.2.2.2.1 X _ v1 v2 v3 hq1
    refine sThrC (g_runV (o := .inl E1) (mc := 1) (ms := 6) (k := 0) (T := TX4) (N := 8) B h hM cw_L_72 ⟨Nat.le_of_ble_eq_true rfl, Nat.le_of_ble_eq_true rfl⟩ (by decide) (S_row _) rfl rfl hl.1.symm rfl (Nat.le_of_ble_eq_true rfl) dL_viewPut_7 ⟨Nat.le_of_eq (Nat.zero_add _), Nat.le_of_eq (Nat.zero_add _)⟩) h (fun H locs q ce h hc hv hcl => ?_)
    by_cases e1_0 : E1 = "java/lang/IndexOutOfBoundsException"
    · rw [if_pos e1_0] at hf
      subst e1_0
      refine vx_catch (own := RL) (name := "java/lang/IndexOutOfBoundsException") B.2.2.2.1 [] ⟨0, 12, 15, 13⟩ [⟨0, 12, 19, 21⟩, ⟨0, 12, 23, 30⟩, ⟨0, 12, 27, 15⟩] (by rw [htab]; rfl) (fun z hz => nomatch hz) rfl (by decide) (B.2.2.2.2.1 _ hw343) (va_Nw.use rfl (B.2.2.2.2.2.1.2.2.2.2.1 _ (by decide +kernel))) hc hv hcl ?_
      refine lv_astore (lv' := [(5, .ref q), (0, .ref (ad 0)), (1, .int v1), (2, .int v2), (3, .int v3), (4, .ref (ad 61))]) hx hb dL_viewPut_15 hl (by decide) rfl (fun ls hl => ?_)
      refine lv_iconst (v := (1 : Int32)) hx hb dL_viewPut_17 (by decide) ?_
      obtain ⟨rfl, h2⟩ := Prod.mk.inj (Option.some.inj hf); obtain ⟨rfl, rfl⟩ := Prod.mk.inj h2
      refine W.widen (k := 1) (n := 6) (Nat.le_refl _) (Nat.le_refl _) ?_
      exact sE_i B hr h dL_viewPut_18
    rw [if_neg e1_0] at hf
    by_cases e1_1 : E1 = "java/util/NoSuchElementException"
    · rw [if_pos e1_1] at hf
      subst e1_1
      refine vx_catch (own := RL) (name := "java/util/NoSuchElementException") B.2.2.2.1 [⟨0, 12, 15, 13⟩] ⟨0, 12, 19, 21⟩ [⟨0, 12, 23, 30⟩, ⟨0, 12, 27, 15⟩] (by rw [htab]; rfl) ((vx_ps B (by decide) hw343 (by decide +kernel) (by decide +kernel) (by decide +kernel) (fun z hz => nomatch hz))) rfl (by decide) (B.2.2.2.2.1 _ hw468) (va_Nw.use rfl (B.2.2.2.2.2.1.2.2.2.2.1 _ (by decide +kernel))) hc hv hcl ?_
      refine lv_astore (lv' := [(5, .ref q), (0, .ref (ad 0)), (1, .int v1), (2, .int v2), (3, .int v3), (4, .ref (ad 61))]) hx hb dL_viewPut_19 hl (by decide) rfl (fun ls hl => ?_)
      refine lv_iconst (v := (2 : Int32)) hx hb dL_viewPut_21 (by decide) ?_
      obtain ⟨rfl, h2⟩ := Prod.mk.inj (Option.some.inj hf); obtain ⟨rfl, rfl⟩ := Prod.mk.inj h2
      refine W.widen (k := 1) (n := 6) (Nat.le_refl _) (Nat.le_refl _) ?_
      exact sE_i B hr h dL_viewPut_22
    rw [if_neg e1_1] at hf
    by_cases e1_2 : E1 = "java/lang/IllegalArgumentException"
    · rw [if_pos e1_2] at hf
      subst e1_2
      refine vx_catch (own := RL) (name := "java/lang/IllegalArgumentException") B.2.2.2.1 [⟨0, 12, 15, 13⟩, ⟨0, 12, 19, 21⟩] ⟨0, 12, 23, 30⟩ [⟨0, 12, 27, 15⟩] (by rw [htab]; rfl) ((vx_ps B (by decide) hw343 (by decide +kernel) (by decide +kernel) (by decide +kernel) (vx_ps B (by decide) hw468 (by decide +kernel) (by decide +kernel) (by decide +kernel) (fun z hz => nomatch hz)))) rfl (by decide) (B.2.2.2.2.1 _ hw500) (va_Nw.use rfl (B.2.2.2.2.2.1.2.2.2.2.1 _ (by decide +kernel))) hc hv hcl ?_
      refine lv_astore (lv' := [(5, .ref q), (0, .ref (ad 0)), (1, .int v1), (2, .int v2), (3, .int v3), (4, .ref (ad 61))]) hx hb dL_viewPut_23 hl (by decide) rfl (fun ls hl => ?_)
      refine lv_iconst (v := (3 : Int32)) hx hb dL_viewPut_25 (by decide) ?_
      obtain ⟨rfl, h2⟩ := Prod.mk.inj (Option.some.inj hf); obtain ⟨rfl, rfl⟩ := Prod.mk.inj h2
      refine W.widen (k := 1) (n := 6) (Nat.le_refl _) (Nat.le_refl _) ?_
      exact sE_i B hr h dL_viewPut_26
    rw [if_neg e1_2] at hf
    by_cases e1_3 : E1 = "java/lang/IllegalStateException"
    · rw [if_pos e1_3] at hf
      subst e1_3
      refine vx_catch (own := RL) (name := "java/lang/IllegalStateException") B.2.2.2.1 [⟨0, 12, 15, 13⟩, ⟨0, 12, 19, 21⟩, ⟨0, 12, 23, 30⟩] ⟨0, 12, 27, 15⟩ [] (by rw [htab]; rfl) ((vx_ps B (by decide) hw343 (by decide +kernel) (by decide +kernel) (by decide +kernel) (vx_ps B (by decide) hw468 (by decide +kernel) (by decide +kernel) (by decide +kernel) (vx_ps B (by decide) hw500 (by decide +kernel) (by decide +kernel) (by decide +kernel) (fun z hz => nomatch hz))))) rfl (by decide) (B.2.2.2.2.1 _ hw422) (va_Nw.use rfl (B.2.2.2.2.2.1.2.2.2.2.1 _ (by decide +kernel))) hc hv hcl ?_
      refine lv_astore (lv' := [(5, .ref q), (0, .ref (ad 0)), (1, .int v1), (2, .int v2), (3, .int v3), (4, .ref (ad 61))]) hx hb dL_viewPut_27 hl (by decide) rfl (fun ls hl => ?_)
      refine lv_iconst (v := (4 : Int32)) hx hb dL_viewPut_29 (by decide) ?_
      obtain ⟨rfl, h2⟩ := Prod.mk.inj (Option.some.inj hf); obtain ⟨rfl, rfl⟩ := Prod.mk.inj h2
      refine W.widen (k := 1) (n := 6) (Nat.le_refl _) (Nat.le_refl _) ?_
      exact sE_i B hr h dL_viewPut_30
    rw [if_neg e1_3] at hf
    cases hf
  have hM := ok_X4_viewPut (D := D) (cy := cy) B.2.2.2.2.2.2.2.2 B.2.2.2.2.2.2.1 X _ v1 v2 v3 hq1
  refine sRetC1 (g_runV (o := .inr (some (.int vr1))) (mc := 0) (ms := 0) (k := 0) (T := TX4) (N := 8) B h hM cw_L_72 ⟨Nat.le_of_ble_eq_true rfl, Nat.le_of_ble_eq_true rfl⟩ (by decide) (S_row _) rfl rfl hl.1.symm rfl (Nat.le_of_ble_eq_true rfl) dL_viewPut_7 ⟨Nat.zero_le _, Nat.zero_le _⟩) h (fun H locs h => ?_)
  refine lv_i2l (v := (vr1.toInt64)) hx hb dL_viewPut_10 rfl ?_
  refine g_last B h (i := (0 : Int32)) (inb_in (n := 1) (by decide)) dL_viewPut_11 (fun H locs h => ?_)
  refine lv_goto (tgt := 31) hx hb dL_viewPut_12 (by decide) ?_
  refine lv_iconst (v := (0 : Int32)) hx hb dL_viewPut_31 (by decide) ?_
  obtain ⟨rfl, h2⟩ := Prod.mk.inj (Option.some.inj hf); obtain ⟨rfl, rfl⟩ := Prod.mk.inj h2
  refine W.widen (k := 1) (n := 6) (Nat.zero_le _) (Nat.zero_le _) ?_
  exact sE_i B hr h dL_viewPut_32
set_option maxHeartbeats 4000000 in
set_option maxRecDepth 100000 in
theorem ok_L_viewRemove {l : Launch} (hl0 : l.stackTraces = false) {D : va_G} {cy : Nat → ClassId} {ad : Nat → Nat} (hap : sAp ad) (X : sX) (σ : sM) (v1 : Int32) (v2 : Int32) {r : Int32} {σ' : sM} {X' : sX} (hf : f_L_viewRemove v1 v2 σ X = some (r, σ', X')) : sMet l yL_viewRemove (sWh yL_viewRemove cL_viewRemove 5 (some .int) [(0, 17, 20, 13), (0, 17, 24, 21)]) 9 176 1 6 D cy ad X σ [.ref (ad 0), .int v1, .int v2, .ref (ad 61)] (.inr (some (.int r))) X' σ' := by
  refine sMet_ofH (by decide +kernel) (Nat.le_of_ble_eq_true rfl) hap hl0 ?_
  intro p e s m args below meth c ls B hr htab hl h
  replace hf : (cthn (f_X4_viewRemove v1 v2 σ) (fun E1 σ1 => if E1 = "java/lang/IndexOutOfBoundsException" then (some ((1 : Int32), σ1, X)) else if E1 = "java/util/NoSuchElementException" then (some ((2 : Int32), σ1, X)) else none) (fun vr1 σ1 => if vr1 = 0 then (some ((0 : Int32), σ1, (vp_updL X.1 ((0 : Int32)).toNatClampNeg (0 : Int64), X.2))) else (some ((0 : Int32), σ1, (vp_updL X.1 ((0 : Int32)).toNatClampNeg (1 : Int64), X.2))))) = some (r, σ', X') := hf
  have hx := B.1
  have hb := B.2.1
  refine lv_aload_n hx hb dL_viewRemove_0 rfl (lv_at hl 3 rfl) ?_
  refine lv_iconst (v := (0 : Int32)) hx hb dL_viewRemove_1 (by decide) ?_
  refine lv_aload_n hx hb dL_viewRemove_2 rfl (lv_at hl 0 rfl) ?_
  refine lv_iload_n hx hb dL_viewRemove_3 rfl (lv_at hl 1 rfl) ?_
  refine lv_iload_n hx hb dL_viewRemove_4 rfl (lv_at hl 2 rfl) ?_
  rcases cthn_cases hf with ⟨E1, σ1, hq1, hf⟩ | ⟨vr1, σ1, hq1, hf⟩
  · have hM := ok_X4_viewRemove (D := D) (cy := cy) B.2.2.2.2.2.2.2.2 B.2.2.2.2.2.2.1 X _ v1 v2 hq1
    refine sThrC (g_runV (o := .inl E1) (mc := 1) (ms := 6) (k := 0) (T := TX4) (N := 8) B h hM cw_L_75 ⟨Nat.le_of_ble_eq_true rfl, Nat.le_of_ble_eq_true rfl⟩ (by decide) (S_row _) rfl rfl hl.1.symm rfl (Nat.le_of_ble_eq_true rfl) dL_viewRemove_5 ⟨Nat.le_of_eq (Nat.zero_add _), Nat.le_of_eq (Nat.zero_add _)⟩) h (fun H locs q ce h hc hv hcl => ?_)
    by_cases e1_0 : E1 = "java/lang/IndexOutOfBoundsException"
    · rw [if_pos e1_0] at hf
      subst e1_0
      refine vx_catch (own := RL) (name := "java/lang/IndexOutOfBoundsException") B.2.2.2.1 [] ⟨0, 17, 20, 13⟩ [⟨0, 17, 24, 21⟩] (by rw [htab]; rfl) (fun z hz => nomatch hz) rfl (by decide) (B.2.2.2.2.1 _ hw343) (va_Nw.use rfl (B.2.2.2.2.2.1.2.2.2.2.1 _ (by decide +kernel))) hc hv hcl ?_
      refine lv_astore (lv' := [(4, .ref q), (0, .ref (ad 0)), (1, .int v1), (2, .int v2), (3, .ref (ad 61))]) hx hb dL_viewRemove_20 hl (by decide) rfl (fun ls hl => ?_)
      refine lv_iconst (v := (1 : Int32)) hx hb dL_viewRemove_22 (by decide) ?_
      obtain ⟨rfl, h2⟩ := Prod.mk.inj (Option.some.inj hf); obtain ⟨rfl, rfl⟩ := Prod.mk.inj h2
      refine W.widen (k := 1) (n := 6) (Nat.le_refl _) (Nat.le_refl _) ?_
      exact sE_i B hr h dL_viewRemove_23
    rw [if_neg e1_0] at hf
    by_cases e1_1 : E1 = "java/util/NoSuchElementException"
    · rw [if_pos e1_1] at hf
      subst e1_1
      refine vx_catch (own := RL) (name := "java/util/NoSuchElementException") B.2.2.2.1 [⟨0, 17, 20, 13⟩] ⟨0, 17, 24, 21⟩ [] (by rw [htab]; rfl) ((vx_ps B (by decide) hw343 (by decide +kernel) (by decide +kernel) (by decide +kernel) (fun z hz => nomatch hz))) rfl (by decide) (B.2.2.2.2.1 _ hw468) (va_Nw.use rfl (B.2.2.2.2.2.1.2.2.2.2.1 _ (by decide +kernel))) hc hv hcl ?_
      refine lv_astore (lv' := [(4, .ref q), (0, .ref (ad 0)), (1, .int v1), (2, .int v2), (3, .ref (ad 61))]) hx hb dL_viewRemove_24 hl (by decide) rfl (fun ls hl => ?_)
      refine lv_iconst (v := (2 : Int32)) hx hb dL_viewRemove_26 (by decide) ?_
      obtain ⟨rfl, h2⟩ := Prod.mk.inj (Option.some.inj hf); obtain ⟨rfl, rfl⟩ := Prod.mk.inj h2
      refine W.widen (k := 1) (n := 6) (Nat.le_refl _) (Nat.le_refl _) ?_
      exact sE_i B hr h dL_viewRemove_27
    rw [if_neg e1_1] at hf
    cases hf
  have hM := ok_X4_viewRemove (D := D) (cy := cy) B.2.2.2.2.2.2.2.2 B.2.2.2.2.2.2.1 X _ v1 v2 hq1
  refine sRetC1 (g_runV (o := .inr (some (.int vr1))) (mc := 0) (ms := 0) (k := 0) (T := TX4) (N := 8) B h hM cw_L_75 ⟨Nat.le_of_ble_eq_true rfl, Nat.le_of_ble_eq_true rfl⟩ (by decide) (S_row _) rfl rfl hl.1.symm rfl (Nat.le_of_ble_eq_true rfl) dL_viewRemove_5 ⟨Nat.zero_le _, Nat.zero_le _⟩) h (fun H locs h => ?_)
  refine lv_if_eq (tgt := 15) hx hb dL_viewRemove_8 (by decide) (fun c2 => ?_) (fun c2 => ?_)
  · rw [if_pos c2] at hf
    refine lv_lconst (v := (0 : Int64)) hx hb dL_viewRemove_15 (by decide) ?_
    refine g_last B h (i := (0 : Int32)) (inb_in (n := 1) (by decide)) dL_viewRemove_16 (fun H locs h => ?_)
    refine lv_goto (tgt := 28) hx hb dL_viewRemove_17 (by decide) ?_
    refine lv_iconst (v := (0 : Int32)) hx hb dL_viewRemove_28 (by decide) ?_
    obtain ⟨rfl, h2⟩ := Prod.mk.inj (Option.some.inj hf); obtain ⟨rfl, rfl⟩ := Prod.mk.inj h2
    refine W.widen (k := 1) (n := 6) (Nat.zero_le _) (Nat.zero_le _) ?_
    exact sE_i B hr h dL_viewRemove_29
  · rw [if_neg c2] at hf
    refine lv_lconst (v := (1 : Int64)) hx hb dL_viewRemove_11 (by decide) ?_
    refine lv_goto (tgt := 16) hx hb dL_viewRemove_12 (by decide) ?_
    refine g_last B h (i := (0 : Int32)) (inb_in (n := 1) (by decide)) dL_viewRemove_16 (fun H locs h => ?_)
    refine lv_goto (tgt := 28) hx hb dL_viewRemove_17 (by decide) ?_
    refine lv_iconst (v := (0 : Int32)) hx hb dL_viewRemove_28 (by decide) ?_
    obtain ⟨rfl, h2⟩ := Prod.mk.inj (Option.some.inj hf); obtain ⟨rfl, rfl⟩ := Prod.mk.inj h2
    refine W.widen (k := 1) (n := 6) (Nat.zero_le _) (Nat.zero_le _) ?_
    exact sE_i B hr h dL_viewRemove_29
set_option maxHeartbeats 4000000 in
set_option maxRecDepth 100000 in
theorem ok_L_viewSize {l : Launch} (hl0 : l.stackTraces = false) {D : va_G} {cy : Nat → ClassId} {ad : Nat → Nat} (hap : sAp ad) (X : sX) (σ : sM) (v1 : Int32) {r : Int32} {σ' : sM} {X' : sX} (hf : f_L_viewSize v1 σ X = some (r, σ', X')) : sMet l yL_viewSize (sWh yL_viewSize cL_viewSize 4 (some .int) [(0, 9, 12, 13)]) 8 142 1 6 D cy ad X σ [.ref (ad 0), .int v1, .ref (ad 61)] (.inr (some (.int r))) X' σ' := by
  refine sMet_ofH (by decide +kernel) (Nat.le_of_ble_eq_true rfl) hap hl0 ?_
  intro p e s m args below meth c ls B hr htab hl h
  replace hf : (cthn (f_X4_viewSize v1 σ) (fun E1 σ1 => if E1 = "java/lang/IndexOutOfBoundsException" then (some ((1 : Int32), σ1, X)) else none) (fun vr1 σ1 => some ((0 : Int32), σ1, (vp_updL X.1 ((0 : Int32)).toNatClampNeg (vr1.toInt64), X.2)))) = some (r, σ', X') := hf
  have hx := B.1
  have hb := B.2.1
  refine lv_aload_n hx hb dL_viewSize_0 rfl (lv_at hl 2 rfl) ?_
  refine lv_iconst (v := (0 : Int32)) hx hb dL_viewSize_1 (by decide) ?_
  refine lv_aload_n hx hb dL_viewSize_2 rfl (lv_at hl 0 rfl) ?_
  refine lv_iload_n hx hb dL_viewSize_3 rfl (lv_at hl 1 rfl) ?_
  rcases cthn_cases hf with ⟨E1, σ1, hq1, hf⟩ | ⟨vr1, σ1, hq1, hf⟩
  · have hM := ok_X4_viewSize (D := D) (cy := cy) B.2.2.2.2.2.2.2.2 B.2.2.2.2.2.2.1 X _ v1 hq1
    refine sThrC (g_runV (o := .inl E1) (mc := 1) (ms := 6) (k := 0) (T := TX4) (N := 8) B h hM cw_L_90 ⟨Nat.le_of_ble_eq_true rfl, Nat.le_of_ble_eq_true rfl⟩ (by decide) (S_row _) rfl rfl hl.1.symm rfl (Nat.le_of_ble_eq_true rfl) dL_viewSize_4 ⟨Nat.le_of_eq (Nat.zero_add _), Nat.le_of_eq (Nat.zero_add _)⟩) h (fun H locs q ce h hc hv hcl => ?_)
    by_cases e1_0 : E1 = "java/lang/IndexOutOfBoundsException"
    · rw [if_pos e1_0] at hf
      subst e1_0
      refine vx_catch (own := RL) (name := "java/lang/IndexOutOfBoundsException") B.2.2.2.1 [] ⟨0, 9, 12, 13⟩ [] (by rw [htab]; rfl) (fun z hz => nomatch hz) rfl (by decide) (B.2.2.2.2.1 _ hw343) (va_Nw.use rfl (B.2.2.2.2.2.1.2.2.2.2.1 _ (by decide +kernel))) hc hv hcl ?_
      refine lv_astore_n (lv' := [(3, .ref q), (0, .ref (ad 0)), (1, .int v1), (2, .ref (ad 61))]) hx hb dL_viewSize_12 rfl hl (by decide) rfl (fun ls hl => ?_)
      refine lv_iconst (v := (1 : Int32)) hx hb dL_viewSize_13 (by decide) ?_
      obtain ⟨rfl, h2⟩ := Prod.mk.inj (Option.some.inj hf); obtain ⟨rfl, rfl⟩ := Prod.mk.inj h2
      refine W.widen (k := 1) (n := 6) (Nat.le_refl _) (Nat.le_refl _) ?_
      exact sE_i B hr h dL_viewSize_14
    rw [if_neg e1_0] at hf
    cases hf
  have hM := ok_X4_viewSize (D := D) (cy := cy) B.2.2.2.2.2.2.2.2 B.2.2.2.2.2.2.1 X _ v1 hq1
  refine sRetC1 (g_runV (o := .inr (some (.int vr1))) (mc := 0) (ms := 0) (k := 0) (T := TX4) (N := 8) B h hM cw_L_90 ⟨Nat.le_of_ble_eq_true rfl, Nat.le_of_ble_eq_true rfl⟩ (by decide) (S_row _) rfl rfl hl.1.symm rfl (Nat.le_of_ble_eq_true rfl) dL_viewSize_4 ⟨Nat.zero_le _, Nat.zero_le _⟩) h (fun H locs h => ?_)
  refine lv_i2l (v := (vr1.toInt64)) hx hb dL_viewSize_7 rfl ?_
  refine g_last B h (i := (0 : Int32)) (inb_in (n := 1) (by decide)) dL_viewSize_8 (fun H locs h => ?_)
  refine lv_goto (tgt := 15) hx hb dL_viewSize_9 (by decide) ?_
  refine lv_iconst (v := (0 : Int32)) hx hb dL_viewSize_15 (by decide) ?_
  obtain ⟨rfl, h2⟩ := Prod.mk.inj (Option.some.inj hf); obtain ⟨rfl, rfl⟩ := Prod.mk.inj h2
  refine W.widen (k := 1) (n := 6) (Nat.zero_le _) (Nat.zero_le _) ?_
  exact sE_i B hr h dL_viewSize_16
