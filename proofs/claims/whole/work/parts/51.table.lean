/-! the class's Table over the room: what its functions answer, in words of lists -/
abbrev hasP (L : LM) (k : Int32) : Prop := has L k
def cu (L : LM) (k : Int32) : Nat := if hasP L k then cb L k + 1 else cb L k
def TB (σ : sM) (t : Nat) (L : LM) : Prop := σ t 2 = nI L.length ∧ L.length ≤ 120 ∧ ∀ j, j < L.length → σ (t + 1) j = kA L j ∧ σ (t + 2) j = vA L j
/-- nothing but the table t changed -/
def frT (σ σ' : sM) (t : Nat) : Prop := ∀ k, k ≠ t → k ≠ t + 1 → k ≠ t + 2 → σ' k = σ k
theorem frT.rf {σ : sM} {t : Nat} : frT σ σ t := fun _ _ _ _ => rfl
theorem frT.tr {σ σ1 σ2 : sM} {t : Nat} (h1 : frT σ σ1 t) (h2 : frT σ1 σ2 t) : frT σ σ2 t := fun k a b c => (h2 k a b c).trans (h1 k a b c)
theorem TB.fr {σ σ' : sM} {t u : Nat} {L : LM} (h : TB σ u L) (hf : frT σ σ' t) (ht : isT t) (hu : isT u) (hne : u ≠ t) : TB σ' u L := by
  have e0 : σ' u = σ u := hf u (by unfold isT at *; omega) (by unfold isT at *; omega) (by unfold isT at *; omega)
  have e1 : σ' (u + 1) = σ (u + 1) := hf (u + 1) (by unfold isT at *; omega) (by unfold isT at *; omega) (by unfold isT at *; omega)
  have e2 : σ' (u + 2) = σ (u + 2) := hf (u + 2) (by unfold isT at *; omega) (by unfold isT at *; omega) (by unfold isT at *; omega)
  exact ⟨by rw [e0]; exact h.1, h.2.1, fun j hj => by rw [e1, e2]; exact h.2.2 j hj⟩
theorem cb_lt31 {L : LM} (h : L.length ≤ 120) (k : Int32) : cb L k ≤ 120 := Nat.le_trans (cb_le L k) h
theorem up_s {σ : sM} {k : Nat} {f : Nat → Int32} : va_up σ k f k = f := by simp only [va_up, if_pos]
theorem up_n {σ : sM} {k j : Nat} {f : Nat → Int32} (h : j ≠ k) : va_up σ k f j = σ j := by simp only [va_up, if_neg h]
theorem upd_s {f : Nat → Int32} {k : Nat} {x : Int32} : upd f k x k = x := by simp only [upd, if_pos]
theorem upd_n {f : Nat → Int32} {k j : Nat} {x : Int32} (h : j ≠ k) : upd f k x j = f j := by simp only [upd, if_neg h]
theorem one_nI : (1 : Int32) = nI 1 := rfl
theorem zero_nI : (0 : Int32) = nI 0 := rfl
theorem m1_ne {n : Nat} (h : n < 2 ^ 31) : ¬ (0 : Int32) ≤ -1 := by decide
theorem nI_ge0 {n : Nat} (h : n < 2 ^ 31) : (0 : Int32) ≤ nI n := nI_pos' h
theorem nI_nlt0 {n : Nat} (h : n < 2 ^ 31) : ¬ nI n < 0 := nI_pos h
theorem cB_step {σ : sM} {t : Nat} {L : LM} (hT : TB σ t L) (k : Int32) (n p w : Nat) (hw : 0 < w) (hw2 : w ≤ 64) (hp : p ≤ 120) :
    b_X2_countBelow_5 (n + 1) t k (nI p) (nI w) σ = if p + w ≤ L.length ∧ kA L (p + w - 1) < k then b_X2_countBelow_5 n t k (nI (p + w)) (nI (w / 2)) σ else b_X2_countBelow_5 n t k (nI p) (nI (w / 2)) σ := by
  have hl := hT.2.1
  have e1 : nI w >>> ((1 : Int32) &&& 31) = nI (w / 2) := pk_shrN (n := w) (by omega) _ 1 (by decide)
  have e2 : nI p + nI w = nI (p + w) := nI_add p w
  have e3 : nI (p + w) - (1 : Int32) = nI (p + w - 1) := by rw [one_nI, pk_sub (by omega)]
  have e4 : (nI (p + w - 1)).toNatClampNeg = p + w - 1 := nI_clamp (by omega)
  have c1 : ¬ nI w ≤ 0 := nI_nle hw (by omega)
  show (if nI w ≤ 0 then _ else _) = _
  rw [if_neg c1, e1, e2, hT.1, e3, e4]
  by_cases c2 : L.length < p + w
  · rw [if_pos ((nI_ltI (by omega) (by omega)).mpr c2), if_neg (by omega)]
  · rw [if_neg (fun h => c2 ((nI_ltI (by omega) (by omega)).mp h)), chk_true (inb_nI (by omega) (by omega)), (hT.2.2 (p + w - 1) (by omega)).1]
    by_cases c3 : kA L (p + w - 1) < k
    · rw [if_neg (fun h => (i_le.mp h) c3), if_pos ⟨by omega, c3⟩]
    · rw [if_pos (i_le.mpr c3), if_neg (fun h => c3 h.2)]
theorem cB_end {σ : sM} {t : Nat} (k : Int32) (n p : Nat) : b_X2_countBelow_5 (n + 1) t k (nI p) (nI 0) σ = some (nI p) := by
  show (if nI 0 ≤ 0 then _ else _) = _
  rw [if_pos (by decide)]
theorem cB_loop {σ : sM} {t : Nat} {L : LM} (hT : TB σ t L) (hs : Srt L) (k : Int32) : ∀ (m : Nat), m ≤ 6 → ∀ (n p : Nat), m + 2 ≤ n → p ≤ cb L k → cb L k < p + 2 ^ (m + 1) → b_X2_countBelow_5 n t k (nI p) (nI (2 ^ m)) σ = some (nI (cb L k)) := by
  have hc := cb_le L k
  have hl := hT.2.1
  have key : ∀ (w n p : Nat), 0 < w → w ≤ 64 → p ≤ cb L k → cb L k < p + 2 * w → (∀ n' p', n' = n → p' ≤ cb L k → cb L k < p' + w → b_X2_countBelow_5 n' t k (nI p') (nI (w / 2)) σ = some (nI (cb L k))) → b_X2_countBelow_5 (n + 1) t k (nI p) (nI w) σ = some (nI (cb L k)) := by
    intro w n p hw hw2 h1 h2 ih
    rw [cB_step hT k n p w hw hw2 (by omega)]
    by_cases c : p + w ≤ L.length ∧ kA L (p + w - 1) < k
    · rw [if_pos c]
      refine ih n _ rfl ?_ (by omega)
      rcases Nat.lt_or_ge (cb L k) (p + w) with q | q
      · exact absurd c.2 (cb_ge hs (by omega) (by omega))
      · exact q
    · rw [if_neg c]
      refine ih n _ rfl h1 ?_
      rcases Nat.lt_or_ge (cb L k) (p + w) with q | q
      · exact q
      · exact absurd ⟨by omega, cb_lt (by omega)⟩ c
  intro m
  induction m with
  | zero =>
    intro _ n p hn h1 h2
    obtain ⟨n, rfl⟩ : ∃ z, n = z + 1 + 1 := ⟨n - 2, by omega⟩
    refine key 1 (n + 1) p (by omega) (by omega) h1 (by simpa using h2) (fun n' p' hn' a b => ?_)
    subst hn'
    have : p' = cb L k := by omega
    rw [← this]
    exact cB_end k n p'
  | succ m ih =>
    intro hm n p hn h1 h2
    obtain ⟨n, rfl⟩ : ∃ z, n = z + 1 := ⟨n - 1, by omega⟩
    have e : 2 ^ (m + 1) = 2 * 2 ^ m := by rw [Nat.pow_succ]; omega
    have hb : 2 ^ (m + 1) ≤ 64 := by
      have := Nat.pow_le_pow_right (n := 2) (by omega) hm
      exact this
    refine key (2 ^ (m + 1)) n p (Nat.pow_pos (by omega)) hb h1 (by rw [Nat.pow_succ] at h2; omega) (fun n' p' hn' a b => ?_)
    subst hn'
    rw [show 2 ^ (m + 1) / 2 = 2 ^ m from by omega]
    exact ih (by omega) n' p' (by omega) a (by omega)
theorem tb_countBelow {σ : sM} {t : Nat} {L : LM} (hT : TB σ t L) (hs : Srt L) (k : Int32) : f_X2_countBelow t k σ = some (nI (cb L k)) := by
  have hl := hT.2.1
  have hc := cb_le L k
  exact cB_loop hT hs k 6 (by omega) FU 0 (by decide) (by omega) (by omega)
theorem tb_countUpTo {σ : sM} {t : Nat} {L : LM} (hT : TB σ t L) (hs : Srt L) (k : Int32) : f_X2_countUpTo t k σ = some (nI (cu L k)) := by
  have hl := hT.2.1
  have hc := cb_le L k
  unfold f_X2_countUpTo cu
  rw [tb_countBelow hT hs k]
  show (if (σ t 2) ≤ nI (cb L k) then _ else _) = _
  rw [hT.1]
  by_cases c : L.length ≤ cb L k
  · rw [if_pos ((nI_leI (by omega) (by omega)).mpr c), if_neg (by omega)]
  · rw [if_neg (fun h => c ((nI_leI (by omega) (by omega)).mp h)), chk_true (inb_nI (by omega) (by omega)), nI_clamp (by omega), (hT.2.2 _ (by omega)).1]
    by_cases c2 : kA L (cb L k) = k
    · rw [if_pos c2, if_pos ⟨by omega, c2⟩, nI_1]
    · rw [if_neg c2, if_neg (fun h => c2 h.2)]
theorem tb_placeOf {σ : sM} {t : Nat} {L : LM} (hT : TB σ t L) (hs : Srt L) (k : Int32) : f_X2_placeOf t k σ = some (if hasP L k then nI (cb L k) else -1) := by
  have hl := hT.2.1
  have hc := cb_le L k
  unfold f_X2_placeOf
  rw [tb_countBelow hT hs k]
  show (if (σ t 2) ≤ nI (cb L k) then _ else _) = _
  rw [hT.1]
  by_cases c : L.length ≤ cb L k
  · rw [if_pos ((nI_leI (by omega) (by omega)).mpr c), if_neg (by omega)]
  · rw [if_neg (fun h => c ((nI_leI (by omega) (by omega)).mp h)), chk_true (inb_nI (by omega) (by omega)), nI_clamp (by omega), (hT.2.2 _ (by omega)).1]
    by_cases c2 : kA L (cb L k) = k
    · rw [if_pos c2, if_pos ⟨by omega, c2⟩]
    · rw [if_neg c2, if_neg (fun h => c2 h.2)]
theorem cpy_at {f g : Nat → Int32} {sp dp n j : Nat} : va_cpy f g sp dp n j = if dp ≤ j ∧ j < dp + n then f (sp + (j - dp)) else g j := rfl
theorem cpb_nI {a b c n0 n1 : Nat} (h1 : a + c ≤ n0) (h2 : b + c ≤ n1) (h3 : n0 < 2 ^ 30) (h4 : n1 < 2 ^ 30) : cpb (nI a) (nI b) (nI c) n0 n1 = true := by
  simp only [cpb, Bool.and_eq_true, decide_eq_true_eq, nI_toInt (n := a) (by omega), nI_toInt (n := b) (by omega), nI_toInt (n := c) (by omega)]
  omega
theorem kA_td (L : LM) {b e : Nat} (h1 : b ≤ e) (h2 : e ≤ L.length) (j : Nat) : kA (L.take b ++ L.drop e) j = (if j < b then kA L j else kA L (e + (j - b))) ∧ vA (L.take b ++ L.drop e) j = (if j < b then vA L j else vA L (e + (j - b))) := by
  unfold kA vA
  simp only [List.getD_eq_getElem?_getD]
  by_cases h : j < b
  · rw [if_pos h, if_pos h, List.getElem?_append_left (by rw [List.length_take]; omega), List.getElem?_take_of_lt h]
    exact ⟨rfl, rfl⟩
  · rw [if_neg h, if_neg h, List.getElem?_append_right (by rw [List.length_take]; omega), List.length_take, Nat.min_eq_left (by omega), List.getElem?_drop]
    exact ⟨rfl, rfl⟩
theorem tb_dropPlaces {σ : sM} {t : Nat} {L : LM} (hT : TB σ t L) {b e : Nat} (h1 : b < e) (h2 : e ≤ L.length) : ok (f_X2_dropPlaces t (nI b) (nI e) σ) (fun q => TB q.2 t (L.take b ++ L.drop e) ∧ frT σ q.2 t) := by
  have hl := hT.2.1
  unfold f_X2_dropPlaces
  refine ok_in (nI_nlt0 (by omega)) ?_
  refine ok_in (fun h => by have := (nI_leI (by omega) (by omega)).mp h; omega) ?_
  rw [hT.1]
  refine ok_ip ((nI_leI (by omega) (by omega)).mpr h2) ?_
  have es : nI L.length - nI e = nI (L.length - e) := pk_sub h2
  rw [es]
  refine ok_chk (cpb_nI (by omega) (by omega) (by omega) (by omega)) ?_
  refine ok_stl (fun σ1 e1 => ?_)
  have q1 : σ1 t = σ t := by rw [e1]; exact up_n (by omega)
  rw [q1, hT.1, es]
  refine ok_chk (cpb_nI (by omega) (by omega) (by omega) (by omega)) ?_
  refine ok_stl (fun σ2 e2 => ?_)
  refine ok_stl (fun σ3 e3 => ?_)
  rw [nI_clamp (n := e) (by omega), nI_clamp (n := b) (by omega), nI_clamp (n := L.length - e) (by omega)] at e1 e2
  refine ok_ret ⟨⟨?_, ?_, fun j hj => ?_⟩, fun k a1 a2 a3 => ?_⟩
  · show σ3 t 2 = _
    rw [e3, up_s, upd_s, e2, up_n (by omega), q1, hT.1, pk_sub (Nat.le_of_lt h1), pk_sub (by omega)]
    congr 1
    rw [List.length_append, List.length_take, List.length_drop]
    omega
  · rw [List.length_append, List.length_take, List.length_drop]; omega
  · rw [List.length_append, List.length_take, List.length_drop] at hj
    obtain ⟨z1, z2⟩ := kA_td L (Nat.le_of_lt h1) h2 j
    rw [z1, z2]
    show σ3 (t + 1) j = _ ∧ σ3 (t + 2) j = _
    rw [e3, up_n (by omega), up_n (by omega), e2, up_n (by omega), up_s, e1, up_s, up_n (by omega), cpy_at, cpy_at]
    by_cases c : j < b
    · have g1 : ¬ (b ≤ j ∧ j < b + (L.length - e)) := by omega
      rw [if_neg g1, if_neg g1, if_pos c, if_pos c]
      exact hT.2.2 j (by omega)
    · have g1 : b ≤ j ∧ j < b + (L.length - e) := by omega
      rw [if_pos g1, if_pos g1, if_neg c, if_neg c]
      exact hT.2.2 _ (by omega)
  · show σ3 k = σ k
    rw [e3, up_n a1, e2, up_n a3, e1, up_n a2]
theorem tb_dropNone {σ : sM} {t : Nat} {L : LM} (hT : TB σ t L) {b e : Nat} (h1 : e ≤ b) (hb : b ≤ 120) : f_X2_dropPlaces t (nI b) (nI e) σ = some ((), σ) := by
  unfold f_X2_dropPlaces
  rw [if_neg (nI_nlt0 (by omega)), if_pos ((nI_leI (by omega) (by omega)).mpr h1)]
theorem erase_td (L : LM) (p : Nat) : L.eraseIdx p = L.take p ++ L.drop (p + 1) := List.eraseIdx_eq_take_drop_succ L p
/-- a Table's set: the entry is there then; whether it is unlike then -/
theorem tb_set {σ : sM} {t : Nat} {L : LM} (hT : TB σ t L) (hs : Srt L) (k v : Int32) (hroom : hasP L k ∨ L.length < 120) : ok (f_X2_set t k v σ) (fun q => q.1 = (if lk L k = some v then 0 else 1) ∧ TB q.2 t (ins L k v) ∧ frT σ q.2 t) := by
  have hl := hT.2.1
  have hc := cb_le L k
  have fresh : ¬ hasP L k → ok (b_X2_set_51 t k v (nI (cb L k)) σ) (fun q => q.1 = (if lk L k = some v then 0 else 1) ∧ TB q.2 t (ins L k v) ∧ frT σ q.2 t) := by
    intro hn
    have hlt : L.length < 120 := hroom.resolve_left hn
    unfold b_X2_set_51
    rw [hT.1]
    refine ok_ip ((nI_ltI (a := L.length) (b := 120) (by omega) (by omega)).mpr hlt) ?_
    have es : nI L.length - nI (cb L k) = nI (L.length - cb L k) := pk_sub hc
    rw [es, nI_1]
    refine ok_chk (cpb_nI (by omega) (by omega) (by omega) (by omega)) ?_
    refine ok_stl (fun σ1 e1 => ?_)
    have q1 : σ1 t = σ t := by rw [e1]; exact up_n (by omega)
    rw [q1, hT.1, es]
    refine ok_chk (cpb_nI (by omega) (by omega) (by omega) (by omega)) ?_
    refine ok_stl (fun σ2 e2 => ?_)
    refine ok_chk (inb_nI (by omega) (by omega)) ?_
    refine ok_stl (fun σ3 e3 => ?_)
    refine ok_chk (inb_nI (by omega) (by omega)) ?_
    refine ok_stl (fun σ4 e4 => ?_)
    refine ok_stl (fun σ5 e5 => ?_)
    rw [nI_clamp (n := cb L k) (by omega), nI_clamp (n := cb L k + 1) (by omega), nI_clamp (n := L.length - cb L k) (by omega)] at e1 e2
    rw [nI_clamp (n := cb L k) (by omega)] at e3 e4
    have hlen := ins_new_len hs hn v
    refine ok_ret ⟨?_, ⟨?_, by omega, fun j hj => ?_⟩, fun z a1 a2 a3 => ?_⟩
    · rw [lk_not hs hn, if_neg (by intro h; cases h)]
    · show σ5 t 2 = _
      rw [e5, up_s, upd_s, e4, up_n (by omega), e3, up_n (by omega), e2, up_n (by omega), q1, hT.1, nI_1, hlen]
    · rw [hlen] at hj
      obtain ⟨z1, z2⟩ := ins_new_k hs hn v j
      rw [z1, z2]
      show σ5 (t + 1) j = _ ∧ σ5 (t + 2) j = _
      have r1 : σ5 (t + 1) = upd (σ2 (t + 1)) (cb L k) k := by rw [e5, up_n (by omega), e4, up_n (by omega), e3, up_s]
      have r2 : σ5 (t + 2) = upd (σ2 (t + 2)) (cb L k) v := by rw [e5, up_n (by omega), e4, up_s, e3, up_n (by omega)]
      have r3 : σ2 (t + 1) = va_cpy (σ (t + 1)) (σ (t + 1)) (cb L k) (cb L k + 1) (L.length - cb L k) := by rw [e2, up_n (by omega), e1, up_s]
      have r4 : σ2 (t + 2) = va_cpy (σ (t + 2)) (σ (t + 2)) (cb L k) (cb L k + 1) (L.length - cb L k) := by rw [e2, up_s, e1, up_n (by omega)]
      rw [r1, r2]
      by_cases c : j < cb L k
      · rw [if_pos c, if_pos c, upd_n (by omega), upd_n (by omega), r3, r4, cpy_at, cpy_at, if_neg (by omega), if_neg (by omega)]
        exact hT.2.2 j (by omega)
      · rw [if_neg c, if_neg c]
        by_cases c2 : j = cb L k
        · rw [if_pos c2, if_pos c2, c2, upd_s, upd_s]
          exact ⟨rfl, rfl⟩
        · rw [if_neg c2, if_neg c2, upd_n c2, upd_n c2, r3, r4, cpy_at, cpy_at, if_pos (by omega), if_pos (by omega), show cb L k + (j - (cb L k + 1)) = j - 1 from by omega]
          exact hT.2.2 _ (by omega)
    · show σ5 z = σ z
      rw [e5, up_n a1, e4, up_n a3, e3, up_n a2, e2, up_n a3, e1, up_n a2]
  unfold f_X2_set
  refine ok_r (tb_countBelow hT hs k) ?_
  rw [hT.1]
  refine ok_if (fun c => ?_) (fun c => ?_)
  · have c := (nI_leI (by omega) (by omega)).mp c
    exact fresh (fun h => by have := h.1; omega)
  · have c : cb L k < L.length := by
      rcases Nat.lt_or_ge (cb L k) L.length with q | q
      · exact q
      · exact absurd ((nI_leI (by omega) (by omega)).mpr q) c
    refine ok_chk (inb_nI (by omega) (by omega)) ?_
    rw [nI_clamp (by omega), (hT.2.2 _ c).1]
    refine ok_if (fun c2 => ?_) (fun c2 => fresh (fun h => c2 h.2))
    have hh : hasP L k := ⟨c, c2⟩
    have hlen := ins_old_len hs hh v
    have fin : ∀ σ1, σ1 = va_up σ (t + 2) (upd (σ (t + 2)) (cb L k) v) → TB σ1 t (ins L k v) ∧ frT σ σ1 t := by
      intro σ1 e1
      refine ⟨⟨?_, by omega, fun j hj => ?_⟩, fun z a1 a2 a3 => ?_⟩
      · rw [e1, up_n (by omega), hT.1, hlen]
      · rw [hlen] at hj
        obtain ⟨z1, z2⟩ := ins_old_k hs hh v j
        rw [z1, z2, e1, up_n (by omega), up_s]
        refine ⟨(hT.2.2 j hj).1, ?_⟩
        by_cases c3 : j = cb L k
        · rw [if_pos c3, c3, upd_s]
        · rw [if_neg c3, upd_n c3]; exact (hT.2.2 j hj).2
      · rw [e1, up_n a3]
    refine ok_chk (inb_nI (by omega) (by omega)) ?_
    rw [(hT.2.2 _ c).2]
    refine ok_if (fun c3 => ?_) (fun c3 => ?_)
    · refine ok_chk (inb_nI (by omega) (by omega)) ?_
      refine ok_stl (fun σ1 e1 => ?_)
      obtain ⟨a, b⟩ := fin σ1 e1
      exact ok_ret ⟨by rw [lk_has hs hh, c3, if_pos rfl], a, b⟩
    · refine ok_chk (inb_nI (by omega) (by omega)) ?_
      refine ok_stl (fun σ1 e1 => ?_)
      obtain ⟨a, b⟩ := fin σ1 e1
      exact ok_ret ⟨by rw [lk_has hs hh, if_neg (fun h => c3 (Option.some.inj h))], a, b⟩
theorem tb_drop {σ : sM} {t : Nat} {L : LM} (hT : TB σ t L) (hs : Srt L) (k : Int32) : ok (f_X2_drop t k σ) (fun q => q.1 = (if hasP L k then 1 else 0) ∧ TB q.2 t (del L k) ∧ frT σ q.2 t) := by
  have hl := hT.2.1
  have hc := cb_le L k
  have none' : ¬ hasP L k → ok (some ((0 : Int32), σ)) (fun q => q.1 = (if hasP L k then 1 else 0) ∧ TB q.2 t (del L k) ∧ frT σ q.2 t) := fun h => ok_ret ⟨by rw [if_neg h], by rw [del_new hs h]; exact hT, frT.rf⟩
  unfold f_X2_drop
  refine ok_r (tb_countBelow hT hs k) ?_
  rw [hT.1]
  refine ok_if (fun c => ?_) (fun c => ?_)
  · have c := (nI_leI (by omega) (by omega)).mp c
    exact none' (fun h => by have := h.1; omega)
  · have c : cb L k < L.length := by
      rcases Nat.lt_or_ge (cb L k) L.length with q | q
      · exact q
      · exact absurd ((nI_leI (by omega) (by omega)).mpr q) c
    refine ok_chk (inb_nI (by omega) (by omega)) ?_
    rw [nI_clamp (by omega), (hT.2.2 _ c).1]
    refine ok_if (fun c2 => ?_) (fun c2 => none' (fun h => c2 h.2))
    have hh : hasP L k := ⟨c, c2⟩
    rw [nI_1]
    refine ok_w (tb_dropPlaces hT (Nat.lt_succ_self _) c) (fun r σ1 h => ?_)
    refine ok_ret ⟨by rw [if_pos hh], ?_, h.2⟩
    rw [del_old hs hh, erase_td]
    exact h.1
