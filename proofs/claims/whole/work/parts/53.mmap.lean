/-! the reference's maps over the room -/
def MB (σ : sM) (i : Nat) (L : LM) : Prop := σ 47 i = nI L.length ∧ L.length ≤ 60 ∧ ∀ j, j < L.length → σ 45 (60 * i + j) = kA L j ∧ σ 46 (60 * i + j) = vA L j
/-- nothing but the map i of the reference changed -/
def frM (σ σ' : sM) (i : Nat) : Prop := (∀ k, k ≠ 45 → k ≠ 46 → k ≠ 47 → σ' k = σ k) ∧ (∀ j, j < 60 * i ∨ 60 * i + 60 ≤ j → σ' 45 j = σ 45 j ∧ σ' 46 j = σ 46 j) ∧ ∀ j, j ≠ i → σ' 47 j = σ 47 j
theorem frM.rf {σ : sM} {i : Nat} : frM σ σ i := ⟨fun _ _ _ _ => rfl, fun _ _ => ⟨rfl, rfl⟩, fun _ _ => rfl⟩
theorem frM.tr {σ σ1 σ2 : sM} {i : Nat} (h1 : frM σ σ1 i) (h2 : frM σ1 σ2 i) : frM σ σ2 i :=
  ⟨fun k a b c => (h2.1 k a b c).trans (h1.1 k a b c), fun j hj => ⟨((h2.2.1 j hj).1).trans (h1.2.1 j hj).1, ((h2.2.1 j hj).2).trans (h1.2.1 j hj).2⟩, fun j hj => (h2.2.2 j hj).trans (h1.2.2 j hj)⟩
theorem MB.fr {σ σ' : sM} {i u : Nat} {L : LM} (h : MB σ u L) (hf : frM σ σ' i) (hne : u ≠ i) : MB σ' u L :=
  ⟨by rw [hf.2.2 u hne]; exact h.1, h.2.1, fun j hj => by
    have hl := h.2.1
    obtain ⟨a, b⟩ := hf.2.1 (60 * u + j) (by omega)
    rw [a, b]; exact h.2.2 j hj⟩
theorem MB.same {σ σ' : sM} {u : Nat} {L : LM} (h : MB σ u L) (h5 : σ' 45 = σ 45) (h6 : σ' 46 = σ 46) (h7 : σ' 47 = σ 47) : MB σ' u L := ⟨by rw [h7]; exact h.1, h.2.1, fun j hj => by rw [h5, h6]; exact h.2.2 j hj⟩
theorem ix {i j : Nat} : (60 : Int32) * nI i + nI j = nI (60 * i + j) := by
  rw [show (60 : Int32) = nI 60 from rfl, pk_mul, nI_add]
theorem rthn_e {α β : Type} {v : α} {k : α → Option β} : rthn (some v) k = k v := rfl
theorem m_isMap (v : Int32) (σ : sM) : f_X5_isMap v σ = some (if v < 0 then 0 else if (2 : Int32) < v then 0 else 1) := by
  unfold f_X5_isMap f_X5_in
  by_cases c : v < 0
  · rw [if_pos c, if_pos c]; rfl
  · rw [if_neg c, if_neg c]
    by_cases c2 : (2 : Int32) < v
    · rw [if_pos c2, if_pos c2]; rfl
    · rw [if_neg c2, if_neg c2]; rfl
theorem m_placeOf {σ : sM} {i : Nat} {L : LM} (hM : MB σ i L) (hs : Srt L) (hi : i < 3) (k : Int32) : f_X5_placeOf (nI i) k σ = some (if hasP L k then nI (cb L k) else -1 - nI (cb L k)) := by
  have hl := hM.2.1
  have hc := cb_le L k
  have hin : inb (nI i) 3 = true := inb_nI hi (by omega)
  have hci : (nI i).toNatClampNeg = i := nI_clamp (by omega)
  have fin : b_X5_placeOf_33 (nI i) k (nI (cb L k)) σ = some (if hasP L k then nI (cb L k) else -1 - nI (cb L k)) := by
    unfold b_X5_placeOf_33
    rw [chk_true hin, hci, hM.1]
    by_cases c : L.length ≤ cb L k
    · rw [if_pos ((nI_leI (by omega) (by omega)).mpr c), if_neg (fun h => by have := h.1; omega)]
    · rw [if_neg (fun h => c ((nI_leI (by omega) (by omega)).mp h)), ix, chk_true (inb_nI (by omega) (by omega)), nI_clamp (by omega), (hM.2.2 _ (by omega)).1]
      by_cases c2 : kA L (cb L k) = k
      · rw [if_pos c2, if_pos ⟨by omega, c2⟩]
      · rw [if_neg c2, if_neg (fun h => c2 h.2)]
  have loop : ∀ (d j n : Nat), cb L k = j + d → d + 1 ≤ n → b_X5_placeOf_2 n (nI i) k (nI j) σ = some (if hasP L k then nI (cb L k) else -1 - nI (cb L k)) := by
    intro d
    induction d with
    | zero =>
      intro j n hj hn
      obtain ⟨n, rfl⟩ : ∃ z, n = z + 1 := ⟨n - 1, by omega⟩
      have hj : j = cb L k := by omega
      rw [hj]
      show (chk (inb (nI i) 3) (if (σ 47 (nI i).toNatClampNeg) ≤ nI (cb L k) then _ else _)) = _
      rw [chk_true hin, hci, hM.1]
      by_cases c : L.length ≤ cb L k
      · rw [if_pos ((nI_leI (by omega) (by omega)).mpr c), fin]
      · rw [if_neg (fun h => c ((nI_leI (by omega) (by omega)).mp h)), ix, chk_true (inb_nI (by omega) (by omega)), nI_clamp (by omega), (hM.2.2 _ (by omega)).1, if_pos (i_le.mpr (cb_ge hs (Nat.le_refl _) (by omega))), fin]
    | succ d ih =>
      intro j n hj hn
      obtain ⟨n, rfl⟩ : ∃ z, n = z + 1 := ⟨n - 1, by omega⟩
      show (chk (inb (nI i) 3) (if (σ 47 (nI i).toNatClampNeg) ≤ nI j then _ else _)) = _
      rw [chk_true hin, hci, hM.1, if_neg (fun h => by have := (nI_leI (by omega) (by omega)).mp h; omega), ix, chk_true (inb_nI (by omega) (by omega)), nI_clamp (by omega), (hM.2.2 _ (by omega)).1, if_neg (fun h => (i_le.mp h) (cb_lt (by omega))), nI_1]
      exact ih (j + 1) n (by omega) (by omega)
  exact loop (cb L k) 0 FU (by omega) (by unfold FU; omega)
theorem neg1_lt {n : Nat} (h : n < 2 ^ 30) : (-1 : Int32) - nI n < 0 := by
  rw [Int32.lt_iff_toInt_lt, Int32.toInt_sub]
  have e1 : (-1 : Int32).toInt = -1 := rfl
  have e2 : (0 : Int32).toInt = 0 := rfl
  rw [e1, e2, nI_toInt (by omega), Int.bmod_eq_of_le (by omega) (by omega)]
  omega
theorem neg1_neg1 {n : Nat} (h : n < 2 ^ 30) : (-1 : Int32) - (-1 - nI n) = nI n := by
  apply Int32.toInt_inj.mp
  have e1 : (-1 : Int32).toInt = -1 := rfl
  have h1 : ((-1 : Int) - (n : Int)).bmod (2 ^ 32) = -1 - (n : Int) := Int.bmod_eq_of_le (by omega) (by omega)
  rw [Int32.toInt_sub, Int32.toInt_sub, e1, nI_toInt (by omega), h1, Int.bmod_eq_of_le (by omega) (by omega)]
  omega
theorem neg1_nge {n : Nat} (h : n < 2 ^ 30) : ¬ (0 : Int32) ≤ -1 - nI n := fun h2 => (i_le.mp h2) (neg1_lt h)
theorem m_has {σ : sM} {i : Nat} {L : LM} (hM : MB σ i L) (hs : Srt L) (hi : i < 3) (k : Int32) : f_X5_has (nI i) k σ = some (if hasP L k then 1 else 0) := by
  have hl := hM.2.1
  have hc := cb_le L k
  unfold f_X5_has
  rw [m_placeOf hM hs hi k]
  by_cases c : hasP L k
  · rw [if_pos c, if_pos c]
    show (if nI (cb L k) < 0 then _ else _) = _
    rw [if_neg (nI_nlt0 (by omega))]
  · rw [if_neg c, if_neg c]
    rw [rthn_e, if_pos (neg1_lt (by omega))]
/-- the room behind: the map i holds L -/
theorem m_puts {σ : sM} {i : Nat} {L : LM} (hM : MB σ i L) (hs : Srt L) (hi : i < 3) (k v : Int32) (hroom : hasP L k ∨ L.length < 60) : ok (f_X5_puts (nI i) k v σ) (fun q => MB q.2 i (ins L k v) ∧ frM σ q.2 i) := by
  have hl := hM.2.1
  have hc := cb_le L k
  have hin : inb (nI i) 3 = true := inb_nI hi (by omega)
  have hci : (nI i).toNatClampNeg = i := nI_clamp (by omega)
  unfold f_X5_puts
  refine ok_r (m_placeOf hM hs hi k) ?_
  by_cases hh : hasP L k
  · rw [if_pos hh]
    refine ok_ip (nI_ge0 (by omega)) ?_
    have hlt := hh.1
    rw [ix, nI_clamp (n := 60 * i + cb L k) (by omega)]
    refine ok_chk (inb_nI (by omega) (by omega)) (ok_stl (fun σ1 e1 => ok_ret ?_))
    have hlen := ins_old_len hs hh v
    refine ⟨⟨?_, by omega, fun j hj => ?_⟩, fun z a b c => ?_, fun j hj => ?_, fun j hj => ?_⟩
    · show σ1 47 i = _
      rw [e1, up_n (by omega), hM.1, hlen]
    · rw [hlen] at hj
      obtain ⟨z1, z2⟩ := ins_old_k hs hh v j
      show σ1 45 _ = _ ∧ σ1 46 _ = _
      rw [z1, z2, e1, up_n (by omega), up_s]
      refine ⟨(hM.2.2 j hj).1, ?_⟩
      by_cases c : j = cb L k
      · rw [if_pos c, c, upd_s]
      · rw [if_neg c, upd_n (by omega)]; exact (hM.2.2 j hj).2
    · show σ1 z = σ z
      rw [e1, up_n b]
    · show σ1 45 j = σ 45 j ∧ σ1 46 j = σ 46 j
      rw [e1, up_n (by omega), up_s, upd_n (by omega)]
      exact ⟨rfl, rfl⟩
    · show σ1 47 j = σ 47 j
      rw [e1, up_n (by omega)]
  · rw [if_neg hh]
    have hlt : L.length < 60 := hroom.resolve_left hh
    refine ok_in (neg1_nge (by omega)) ?_
    refine ok_chk hin ?_
    rw [neg1_neg1 (by omega), hci, hM.1]
    -- the shift, downwards
    have loop : ∀ (d n : Nat) (σ1 : sM), cb L k + d ≤ L.length → d + 1 ≤ n → frM σ σ1 i → σ1 47 i = nI L.length → (∀ j, j ≤ L.length → σ1 45 (60 * i + j) = (if cb L k + d < j then σ 45 (60 * i + (j - 1)) else σ 45 (60 * i + j)) ∧ σ1 46 (60 * i + j) = (if cb L k + d < j then σ 46 (60 * i + (j - 1)) else σ 46 (60 * i + j))) →
        ok (b_X5_puts_27 n (nI i) k v (nI (cb L k)) (nI (cb L k + d)) σ1) (fun q => MB q.2 i (ins L k v) ∧ frM σ q.2 i) := by
      intro d
      induction d with
      | zero =>
        intro n σ1 h1 hn hf h7 hj
        obtain ⟨n, rfl⟩ : ∃ z, n = z + 1 := ⟨n - 1, by omega⟩
        show ok (if nI (cb L k + 0) ≤ nI (cb L k) then _ else _) _
        refine ok_ip ((nI_leI (by omega) (by omega)).mpr (by omega)) ?_
        rw [hci, h7, nI_1, ix, nI_clamp (n := 60 * i + cb L k) (by omega)]
        refine ok_chk hin (ok_chk hin (ok_stl (fun σ2 e2 => ?_)))
        refine ok_chk (inb_nI (by omega) (by omega)) (ok_stl (fun σ3 e3 => ?_))
        refine ok_chk (inb_nI (by omega) (by omega)) (ok_stl (fun σ4 e4 => ok_ret ?_))
        have hlen := ins_new_len hs hh v
        have r5 : σ4 45 = upd (σ1 45) (60 * i + cb L k) k := by rw [e4, up_n (by omega), e3, up_s, e2, up_n (by omega)]
        have r6 : σ4 46 = upd (σ1 46) (60 * i + cb L k) v := by rw [e4, up_s, e3, up_n (by omega), e2, up_n (by omega)]
        have r7 : σ4 47 = upd (σ1 47) i (nI (L.length + 1)) := by rw [e4, up_n (by omega), e3, up_n (by omega), e2, up_s]
        refine ⟨⟨?_, by omega, fun j hj2 => ?_⟩, hf.tr ⟨fun z a b c => ?_, fun j hj2 => ?_, fun j hj2 => ?_⟩⟩
        · show σ4 47 i = _
          rw [r7, upd_s, hlen]
        · rw [hlen] at hj2
          obtain ⟨z1, z2⟩ := ins_new_k hs hh v j
          show σ4 45 _ = _ ∧ σ4 46 _ = _
          rw [z1, z2, r5, r6]
          by_cases c : j < cb L k
          · obtain ⟨x1, x2⟩ := hj j (by omega)
            rw [if_pos c, if_pos c, upd_n (by omega), upd_n (by omega), x1, x2, if_neg (by omega), if_neg (by omega)]
            exact hM.2.2 j (by omega)
          · rw [if_neg c, if_neg c]
            by_cases c2 : j = cb L k
            · rw [if_pos c2, if_pos c2, c2, upd_s, upd_s]; exact ⟨rfl, rfl⟩
            · obtain ⟨x1, x2⟩ := hj j (by omega)
              rw [if_neg c2, if_neg c2, upd_n (by omega), upd_n (by omega), x1, x2, if_pos (by omega), if_pos (by omega)]
              exact hM.2.2 _ (by omega)
        · show σ4 z = σ1 z
          rw [e4, up_n b, e3, up_n a, e2, up_n c]
        · show σ4 45 j = σ1 45 j ∧ σ4 46 j = σ1 46 j
          rw [r5, r6, upd_n (by omega), upd_n (by omega)]
          exact ⟨rfl, rfl⟩
        · show σ4 47 j = σ1 47 j
          rw [r7, upd_n hj2]
      | succ d ih =>
        intro n σ1 h1 hn hf h7 hj
        obtain ⟨n, rfl⟩ : ∃ z, n = z + 1 := ⟨n - 1, by omega⟩
        show ok (if nI (cb L k + (d + 1)) ≤ nI (cb L k) then _ else _) _
        refine ok_in (fun h => by have := (nI_leI (by omega) (by omega)).mp h; omega) ?_
        have em : nI (60 * i + (cb L k + (d + 1))) - 1 = nI (60 * i + (cb L k + d)) := by rw [one_nI, pk_sub (by omega)]; congr 1
        rw [ix, em, nI_clamp (n := 60 * i + (cb L k + (d + 1))) (by omega), nI_clamp (n := 60 * i + (cb L k + d)) (by omega)]
        refine ok_chk (inb_nI (by omega) (by omega)) (ok_chk (inb_nI (by omega) (by omega)) (ok_stl (fun σ2 e2 => ?_)))
        refine ok_chk (inb_nI (by omega) (by omega)) (ok_chk (inb_nI (by omega) (by omega)) (ok_stl (fun σ3 e3 => ?_)))
        have e6 : nI (cb L k + (d + 1)) + (-1) = nI (cb L k + d) := by rw [show cb L k + (d + 1) = (cb L k + d) + 1 from by omega, pk_m1]
        rw [e6]
        have r5 : σ3 45 = upd (σ1 45) (60 * i + (cb L k + (d + 1))) (σ1 45 (60 * i + (cb L k + d))) := by rw [e3, up_n (by omega), e2, up_s]
        have r6 : σ3 46 = upd (σ1 46) (60 * i + (cb L k + (d + 1))) (σ1 46 (60 * i + (cb L k + d))) := by rw [e3, up_s, e2, up_n (by omega)]
        have r7 : σ3 47 = σ1 47 := by rw [e3, up_n (by omega), e2, up_n (by omega)]
        refine ih n σ3 (by omega) (by omega) (hf.tr ⟨fun z a b c => ?_, fun j hj2 => ?_, fun j hj2 => ?_⟩) (by rw [r7]; exact h7) (fun j hj2 => ?_)
        · rw [e3, up_n b, e2, up_n a]
        · rw [r5, r6, upd_n (by omega), upd_n (by omega)]; exact ⟨rfl, rfl⟩
        · rw [r7]
        · rw [r5, r6]
          by_cases c : j = cb L k + (d + 1)
          · obtain ⟨x1, x2⟩ := hj (cb L k + d) (by omega)
            have g1 : ¬ cb L k + (d + 1) < cb L k + d := by omega
            have g2 : cb L k + d < cb L k + (d + 1) := by omega
            rw [c, upd_s, upd_s, x1, x2, if_neg g1, if_neg g1, if_pos g2, if_pos g2, show cb L k + (d + 1) - 1 = cb L k + d from by omega]
            exact ⟨rfl, rfl⟩
          · obtain ⟨x1, x2⟩ := hj j hj2
            rw [upd_n (by omega), upd_n (by omega), x1, x2]
            by_cases c2 : cb L k + (d + 1) < j
            · rw [if_pos c2, if_pos c2, if_pos (by omega), if_pos (by omega)]; exact ⟨rfl, rfl⟩
            · rw [if_neg c2, if_neg c2, if_neg (by omega), if_neg (by omega)]; exact ⟨rfl, rfl⟩
    have e7 : L.length = cb L k + (L.length - cb L k) := by omega
    rw [e7]
    exact loop (L.length - cb L k) FU σ (by omega) (by unfold FU; omega) frM.rf hM.1 (fun j hj => by rw [if_neg (by omega), if_neg (by omega)]; exact ⟨rfl, rfl⟩)
