/-! the checksum -/
variable {σ σ' : sM} {A : Nat → LM} {V : Nat → Option VW} {H : Nat → LH} {D : List Int32} {P : Option Int32}
def ch (s : Int64) (v : Int32) : Int64 := (31 : Int64) * s + v.toInt64
theorem c_chain (s : Int64) (v : Int32) (σ : sM) : f_X4_chain s v σ = some (ch s v) := rfl
def chL : LM → Int64 → Int64
  | [], s => s
  | a :: r, s => chL r (ch (ch s a.1) a.2)
def chH : LH → Int64 → Int64
  | [], s => s
  | a :: r, s => chH r (ch (ch (ch s a.1) a.2.1) a.2.2)
def chK (L : LM) : Nat → Nat → Int64 → Int64
  | 0, _, s => s
  | d + 1, j, s => chK L d (j + 1) (ch s (kA L j))
def chV (A : Nat → LM) : Option VW → Int64 → Int64
  | none, s => ch s (-1)
  | some w, s => chK (A w.1) (nW A w) (bW A w) (ch s (nI (nW A w)))
def chM (L : LM) (s : Int64) : Int64 := chL L (ch s (nI L.length))
def chG (G : LH) (s : Int64) : Int64 := chH G (ch s (nI G.length))
def chAll (A : Nat → LM) (V : Nat → Option VW) (H : Nat → LH) : Int64 :=
  chG (H 2) (chG (H 1) (chG (H 0) (chV A (V 3) (chV A (V 2) (chV A (V 1) (chV A (V 0) (chM (A 2) (chM (A 1) (chM (A 0) 7)))))))))
theorem c_add2 {t : Nat} {L : LM} (hT : TB σ t L) (s : Int64) : f_X2_addTo t s σ = some (chM L s) := by
  have hl := hT.2.1
  have loop : ∀ (R : LM) (j n : Nat) (c : Int64), L.drop j = R → j ≤ 120 → R.length + 1 ≤ n → b_X2_addTo_11 n t c (nI j) σ = some (chL R c) := by
    intro R
    induction R with
    | nil =>
      intro j n c hd hj hn
      obtain ⟨n, rfl⟩ : ∃ z, n = z + 1 := ⟨n - 1, by omega⟩
      show (if (σ t 2) ≤ nI j then _ else _) = _
      rw [hT.1, if_pos (nI_le (List.drop_eq_nil_iff.mp hd) (by omega))]
      rfl
    | cons a r ih =>
      intro j n c hd hj hn
      obtain ⟨n, rfl⟩ : ∃ z, n = z + 1 := ⟨n - 1, by omega⟩
      have hc1 : (a :: r : LM).length = r.length + 1 := rfl
      obtain ⟨hj2, k1, k2, hd1⟩ := kA_drop hd
      have hin : inb (nI j) 120 = true := inb_nI (by omega) (by omega)
      show (if (σ t 2) ≤ nI j then _ else _) = _
      rw [hT.1, if_neg (nI_ge hj2 (by omega)), chk_true hin, c_chain, rthn_e, chk_true hin, c_chain, rthn_e, nI_clamp (by omega), (hT.2.2 j hj2).1, (hT.2.2 j hj2).2, k1, k2, nI_1]
      exact ih (j + 1) n _ hd1 (by omega) (by omega)
  unfold f_X2_addTo
  rw [hT.1, c_chain, rthn_e]
  exact loop L 0 FU _ rfl (by omega) (by unfold FU; omega)
theorem c_add1 {h : Nat} {G : LH} (hH : HB σ h G) (s : Int64) : f_X1_addTo h s σ = some (chG G s) := by
  have hl := hH.2.1
  have loop : ∀ (R : LH) (j n : Nat) (c : Int64), G.drop j = R → j ≤ 30 → R.length + 1 ≤ n → b_X1_addTo_11 n h c (nI j) σ = some (chH R c) := by
    intro R
    induction R with
    | nil =>
      intro j n c hd hj hn
      obtain ⟨n, rfl⟩ : ∃ z, n = z + 1 := ⟨n - 1, by omega⟩
      show (if (σ h 0) ≤ nI j then _ else _) = _
      rw [hH.1, if_pos (nI_le (drop_nil hd) (by omega))]
      rfl
    | cons a r ih =>
      intro j n c hd hj hn
      obtain ⟨n, rfl⟩ : ∃ z, n = z + 1 := ⟨n - 1, by omega⟩
      have hc1 : (a :: r : LH).length = r.length + 1 := rfl
      obtain ⟨hj2, k1, hd1⟩ := hA_drop hd
      have hin : inb (nI j) 30 = true := inb_nI (by omega) (by omega)
      show (if (σ h 0) ≤ nI j then _ else _) = _
      rw [hH.1, if_neg (nI_ge hj2 (by omega)), chk_true hin, c_chain, rthn_e, chk_true hin, c_chain, rthn_e, chk_true hin, c_chain, rthn_e, nI_clamp (by omega), (hH.2.2 j hj2).1, (hH.2.2 j hj2).2.1, (hH.2.2 j hj2).2.2, k1, nI_1]
      exact ih (j + 1) n _ hd1 (by omega) (by omega)
  unfold f_X1_addTo
  rw [hH.1, c_chain, rthn_e]
  exact loop G 0 FU _ rfl (by omega) (by unfold FU; omega)
theorem c_add3 {v : Nat} (ha : AO A V D) (hc : CR σ A V H D P) (hv : v < 4) (s : Int64) : f_X3_addTo (24 + v) s σ = some (chV A (V v) s) := by
  unfold f_X3_addTo
  cases e : V v with
  | none =>
    rw [cv_none hc hv e, sSrc_0]
    rfl
  | some w =>
    have hw := VO.lt ha hv e
    have hT := hc.1 _ hw
    have hl := hT.2.1
    have he := eW_le (A := A) w
    have hbe := bW_eW (A := A) w
    have hn := nW_eq (A := A) w
    have loop : ∀ (d j n : Nat) (c : Int64), j + d = eW A w → d + 1 ≤ n → b_X3_addTo_38 n c (6 + 3 * w.1) (nI (eW A w)) (nI j) σ = some (chK (A w.1) d j c) := by
      intro d
      induction d with
      | zero =>
        intro j n c hj hn
        obtain ⟨n, rfl⟩ : ∃ z, n = z + 1 := ⟨n - 1, by omega⟩
        show (if nI (eW A w) ≤ nI j then _ else _) = _
        rw [if_pos (nI_le (by omega) (by omega))]
        rfl
      | succ d ih =>
        intro j n c hj hn
        obtain ⟨n, rfl⟩ : ∃ z, n = z + 1 := ⟨n - 1, by omega⟩
        show (if nI (eW A w) ≤ nI j then _ else _) = _
        rw [if_neg (nI_ge (by omega) (by omega)), chk_true (inb_nI (by omega) (by omega)), c_chain, rthn_e, nI_clamp (by omega), (hT.2.2 j (by omega)).1, nI_1]
        exact ih (j + 1) n _ (by omega) (by omega)
    rw [(cv_some hc hv e).1, sSrc_nI (isT_m (t3 hw))]
    show rthn (f_X3_stopIn (24 + v) (6 + 3 * w.1) σ) _ = _
    rw [cw_stop ha hc hv e, rthn_e, cw_count ha hc hv e, rthn_e, c_chain, rthn_e, cw_begin ha hc hv e, rthn_e]
    exact loop (nW A w) (bW A w) FU _ (by omega) (by unfold FU; omega)
theorem c_checksum (ha : AO A V D) (hc : CR σ A V H D P) : f_X4_checksum σ = some (chAll A V H) := by
  have s6 : ∀ (n j : Nat) (s : Int64), j < 3 → b_X4_checksum_6 (n + 1) s (nI j) σ = b_X4_checksum_6 n (chM (A j) s) (nI (j + 1)) σ := by
    intro n j s hj
    show (if nI 3 ≤ nI j then _ else _) = _
    rw [if_neg (nI_ge hj (by omega)), chk_true (inb_nI hj (by omega)), nI_clamp (by omega), c_add2 (hc.1 j hj), rthn_e, nI_1]
  have e6 : ∀ (n : Nat) (s : Int64), b_X4_checksum_6 (n + 1) s (nI 3) σ = b_X4_checksum_34 FU s (nI 0) σ := by
    intro n s
    show (if nI 3 ≤ nI 3 then _ else _) = _
    rw [if_pos (by decide)]
    rfl
  have s34 : ∀ (n j : Nat) (s : Int64), j < 4 → b_X4_checksum_34 (n + 1) s (nI j) σ = b_X4_checksum_34 n (chV A (V j) s) (nI (j + 1)) σ := by
    intro n j s hj
    show (if nI 4 ≤ nI j then _ else _) = _
    rw [if_neg (nI_ge hj (by omega)), chk_true (inb_nI hj (by omega)), nI_clamp (by omega), c_add3 ha hc hj, rthn_e, nI_1]
  have e34 : ∀ (n : Nat) (s : Int64), b_X4_checksum_34 (n + 1) s (nI 4) σ = b_X4_checksum_62 FU s (nI 0) σ := by
    intro n s
    show (if nI 4 ≤ nI 4 then _ else _) = _
    rw [if_pos (by decide)]
    rfl
  have s62 : ∀ (n j : Nat) (s : Int64), j < 3 → b_X4_checksum_62 (n + 1) s (nI j) σ = b_X4_checksum_62 n (chG (H j) s) (nI (j + 1)) σ := by
    intro n j s hj
    show (if nI 3 ≤ nI j then _ else _) = _
    rw [if_neg (nI_ge hj (by omega)), chk_true (inb_nI hj (by omega)), nI_clamp (by omega), c_add1 (hc.2.2.1 j hj), rthn_e, nI_1]
  have e62 : ∀ (n : Nat) (s : Int64), b_X4_checksum_62 (n + 1) s (nI 3) σ = some s := by
    intro n s
    show (if nI 3 ≤ nI 3 then _ else _) = _
    rw [if_pos (by decide)]
  unfold f_X4_checksum
  show b_X4_checksum_6 (196 + 1 + 1 + 1 + 1) 7 (nI 0) σ = _
  rw [s6 _ 0 _ (by omega), s6 _ 1 _ (by omega), s6 _ 2 _ (by omega), e6]
  show b_X4_checksum_34 (195 + 1 + 1 + 1 + 1 + 1) _ (nI 0) σ = _
  rw [s34 _ 0 _ (by omega), s34 _ 1 _ (by omega), s34 _ 2 _ (by omega), s34 _ 3 _ (by omega), e34]
  show b_X4_checksum_62 (196 + 1 + 1 + 1 + 1) _ (nI 0) σ = _
  rw [s62 _ 0 _ (by omega), s62 _ 1 _ (by omega), s62 _ 2 _ (by omega), e62]
  rfl
theorem m_33 {i : Nat} {L : LM} (hM : MB σ i L) (hi : i < 3) (K : Int64 → Int32 → sM → Option (Int64 × sM)) (s : Int64) : b_X5_checksum_33 K FU s (nI i) (nI 0) σ = K (chL L s) (nI (i + 1)) σ := by
  have hl := hM.2.1
  have hin : inb (nI i) 3 = true := inb_nI hi (by omega)
  have hci : (nI i).toNatClampNeg = i := nI_clamp (by omega)
  have loop : ∀ (R : LM) (j n : Nat) (c : Int64), L.drop j = R → j ≤ 60 → R.length + 1 ≤ n → b_X5_checksum_33 K n c (nI i) (nI j) σ = K (chL R c) (nI (i + 1)) σ := by
    intro R
    induction R with
    | nil =>
      intro j n c hd hj hn
      obtain ⟨n, rfl⟩ : ∃ z, n = z + 1 := ⟨n - 1, by omega⟩
      show (chk (inb (nI i) 3) (if (σ 47 (nI i).toNatClampNeg) ≤ nI j then _ else _)) = _
      rw [chk_true hin, hci, hM.1, if_pos (nI_le (List.drop_eq_nil_iff.mp hd) (by omega)), nI_1]
      rfl
    | cons a r ih =>
      intro j n c hd hj hn
      obtain ⟨n, rfl⟩ : ∃ z, n = z + 1 := ⟨n - 1, by omega⟩
      have hc1 : (a :: r : LM).length = r.length + 1 := rfl
      obtain ⟨hj2, k1, k2, hd1⟩ := kA_drop hd
      have h1 : inb (nI (60 * i + j)) 180 = true := inb_nI (by omega) (by omega)
      show (chk (inb (nI i) 3) (if (σ 47 (nI i).toNatClampNeg) ≤ nI j then _ else _)) = _
      rw [chk_true hin, hci, hM.1, if_neg (nI_ge hj2 (by omega)), ix, chk_true h1, chk_true h1, nI_clamp (by omega), (hM.2.2 j hj2).1, (hM.2.2 j hj2).2, k1, k2, nI_1 j]
      exact ih (j + 1) n _ hd1 (by omega) (by omega)
  exact loop L 0 FU s rfl (by omega) (by unfold FU; omega)
theorem m_245 {h : Nat} {G : LH} (hH : HM σ h G) (hh : h < 3) (K : Int64 → Int32 → sM → Option (Int64 × sM)) (s : Int64) : b_X5_checksum_245 K FU s (nI h) (nI 0) σ = K (chH G s) (nI (h + 1)) σ := by
  have hl := hH.2.1
  have hin : inb (nI h) 3 = true := inb_nI hh (by omega)
  have hci : (nI h).toNatClampNeg = h := nI_clamp (by omega)
  have loop : ∀ (R : LH) (j n : Nat) (c : Int64), G.drop j = R → j ≤ 30 → R.length + 1 ≤ n → b_X5_checksum_245 K n c (nI h) (nI j) σ = K (chH R c) (nI (h + 1)) σ := by
    intro R
    induction R with
    | nil =>
      intro j n c hd hj hn
      obtain ⟨n, rfl⟩ : ∃ z, n = z + 1 := ⟨n - 1, by omega⟩
      show (chk (inb (nI h) 3) (if (σ 58 (nI h).toNatClampNeg) ≤ nI j then _ else _)) = _
      rw [chk_true hin, hci, hH.1, if_pos (nI_le (drop_nil hd) (by omega)), nI_1]
      rfl
    | cons a r ih =>
      intro j n c hd hj hn
      obtain ⟨n, rfl⟩ : ∃ z, n = z + 1 := ⟨n - 1, by omega⟩
      have hc1 : (a :: r : LH).length = r.length + 1 := rfl
      obtain ⟨hj2, k1, hd1⟩ := hA_drop hd
      have h1 : inb (nI (30 * h + j)) 90 = true := inb_nI (by omega) (by omega)
      show (chk (inb (nI h) 3) (if (σ 58 (nI h).toNatClampNeg) ≤ nI j then _ else _)) = _
      rw [chk_true hin, hci, hH.1, if_neg (nI_ge hj2 (by omega)), ix30, chk_true h1, chk_true h1, chk_true h1, nI_clamp (by omega), (hH.2.2 j hj2).1, (hH.2.2 j hj2).2.1, (hH.2.2 j hj2).2.2, k1, nI_1 j]
      exact ih (j + 1) n _ hd1 (by omega) (by omega)
  exact loop G 0 FU s rfl (by omega) (by unfold FU; omega)
theorem m_132n {v : Nat} (hv : v < 4) (h0 : σ 48 v = 0) (K : Int64 → Int32 → sM → Option (Int64 × sM)) (s : Int64) : b_X5_checksum_132 K FU s (nI v) (nI 0) σ = K s (nI (v + 1)) σ := by
  have hin : inb (nI v) 4 = true := inb_nI hv (by omega)
  have hci : (nI v).toNatClampNeg = v := nI_clamp (by omega)
  have loop : ∀ (d j n : Nat), j + d = 60 → d + 1 ≤ n → b_X5_checksum_132 K n s (nI v) (nI j) σ = K s (nI (v + 1)) σ := by
    intro d
    induction d with
    | zero =>
      intro j n hj hn
      obtain ⟨n, rfl⟩ : ∃ z, n = z + 1 := ⟨n - 1, by omega⟩
      show (if nI 60 ≤ nI j then _ else _) = _
      rw [if_pos (nI_le (by omega) (by omega)), nI_1]
    | succ d ih =>
      intro j n hj hn
      obtain ⟨n, rfl⟩ : ∃ z, n = z + 1 := ⟨n - 1, by omega⟩
      show (if nI 60 ≤ nI j then _ else _) = _
      rw [if_neg (nI_ge (by omega) (by omega)), chk_true hin, hci, h0, if_pos rfl]
      unfold b_X5_checksum_173
      rw [if_pos rfl, nI_1]
      exact ih (j + 1) n (by omega) (by omega)
  exact loop 60 0 FU (by omega) (by unfold FU; omega)
theorem m_132o {v : Nat} {w : VW} (ha : AO A V D) (hm : MR σ A V H D P) (hv : v < 4) (e : V v = some w) (K : Int64 → Int32 → sM → Option (Int64 × sM)) (s : Int64) : b_X5_checksum_132 K FU s (nI v) (nI 0) σ = K (chK (A w.1) (nW A w) (bW A w) s) (nI (v + 1)) σ := by
  have hin : inb (nI v) 4 = true := inb_nI hv (by omega)
  have hci : (nI v).toNatClampNeg = v := nI_clamp (by omega)
  have hw := VO.lt ha hv e
  have hM := hm.1 _ hw
  have hl := hM.2.1
  have he := eW_le (A := A) w
  have hbe := bW_eW (A := A) w
  have hn := nW_eq (A := A) w
  obtain ⟨c0, c1, c2, c3, c4, c5, c6⟩ := mv_some hm hv e
  have loop : ∀ (d j n : Nat) (c : Int64), j + d = 60 → d + 1 ≤ n → b_X5_checksum_132 K n c (nI v) (nI j) σ = K (chK (A w.1) (eW A w - max (bW A w) j) (max (bW A w) j) c) (nI (v + 1)) σ := by
    intro d
    induction d with
    | zero =>
      intro j n c hj hn
      obtain ⟨n, rfl⟩ : ∃ z, n = z + 1 := ⟨n - 1, by omega⟩
      show (if nI 60 ≤ nI j then _ else _) = _
      rw [if_pos (nI_le (by omega) (by omega)), nI_1, show eW A w - max (bW A w) j = 0 from by omega]
      rfl
    | succ d ih =>
      intro j n c hj hn
      obtain ⟨n, rfl⟩ : ∃ z, n = z + 1 := ⟨n - 1, by omega⟩
      show (if nI 60 ≤ nI j then _ else _) = _
      rw [if_neg (nI_ge (by omega) (by omega)), chk_true hin, hci, c0, if_neg (by decide), mw_first ha hm hv e, rthn_e]
      by_cases b1 : j < bW A w
      · rw [if_pos (nI_lt b1 (by omega))]
        unfold b_X5_checksum_173
        rw [if_pos rfl, nI_1, ih (j + 1) n c (by omega) (by omega), show max (bW A w) (j + 1) = max (bW A w) j from by omega]
      · rw [if_neg (nI_nlt (by omega) (by omega)), mw_behind ha hm hv e, rthn_e]
        by_cases e1 : j < eW A w
        · rw [if_neg (nI_ge e1 (by omega))]
          unfold b_X5_checksum_173
          rw [if_neg (by decide), chk_true hin, hci, c1, ix, chk_true (inb_nI (by omega) (by omega)), nI_clamp (by omega), (hM.2.2 j (by omega)).1, nI_1 j, ih (j + 1) n _ (by omega) (by omega), show max (bW A w) j = j from by omega, show max (bW A w) (j + 1) = j + 1 from by omega, show eW A w - j = (eW A w - (j + 1)) + 1 from by omega]
          rfl
        · rw [if_pos (nI_le (by omega) (by omega))]
          unfold b_X5_checksum_173
          rw [if_pos rfl, nI_1 j, ih (j + 1) n c (by omega) (by omega), show eW A w - max (bW A w) (j + 1) = 0 from by omega, show eW A w - max (bW A w) j = 0 from by omega]
          rfl
  have h := loop 60 0 FU s (by omega) (by unfold FU; omega)
  rw [show max (bW A w) 0 = bW A w from by omega, ← hn] at h
  exact h
theorem m_checksum (ha : AO A V D) (hm : MR σ A V H D P) : b_X5_checksum_11 FU 7 0 σ = some (chAll A V H, σ) := by
  have s11 : ∀ (n j : Nat) (s : Int64), j < 3 → b_X5_checksum_11 (n + 1) s (nI j) σ = b_X5_checksum_11 n (chM (A j) s) (nI (j + 1)) σ := by
    intro n j s hj
    show (if nI 3 ≤ nI j then _ else _) = _
    rw [if_neg (nI_ge hj (by omega)), chk_true (inb_nI hj (by omega)), nI_clamp (by omega), (hm.1 j hj).1]
    exact m_33 (hm.1 j hj) hj _ _
  have e11 : ∀ (n : Nat) (s : Int64), b_X5_checksum_11 (n + 1) s (nI 3) σ = b_X5_checksum_98 FU s (nI 0) σ := by
    intro n s
    show (if nI 3 ≤ nI 3 then _ else _) = _
    rw [if_pos (by decide)]
    rfl
  have s98 : ∀ (n j : Nat) (s : Int64), j < 4 → b_X5_checksum_98 (n + 1) s (nI j) σ = b_X5_checksum_98 n (chV A (V j) s) (nI (j + 1)) σ := by
    intro n j s hj
    show (if nI 4 ≤ nI j then _ else _) = _
    rw [if_neg (nI_ge hj (by omega)), chk_true (inb_nI hj (by omega)), nI_clamp (by omega)]
    cases e : V j with
    | none =>
      rw [mv_none hm hj e, if_pos rfl]
      exact m_132n hj (mv_none hm hj e) _ _
    | some w =>
      rw [(mv_some hm hj e).1, if_neg (by decide), mw_many ha hm hj e, rthn_e]
      exact m_132o ha hm hj e _ _
  have e98 : ∀ (n : Nat) (s : Int64), b_X5_checksum_98 (n + 1) s (nI 4) σ = b_X5_checksum_223 FU s (nI 0) σ := by
    intro n s
    show (if nI 4 ≤ nI 4 then _ else _) = _
    rw [if_pos (by decide)]
    rfl
  have s223 : ∀ (n j : Nat) (s : Int64), j < 3 → b_X5_checksum_223 (n + 1) s (nI j) σ = b_X5_checksum_223 n (chG (H j) s) (nI (j + 1)) σ := by
    intro n j s hj
    show (if nI 3 ≤ nI j then _ else _) = _
    rw [if_neg (nI_ge hj (by omega)), chk_true (inb_nI hj (by omega)), nI_clamp (by omega), (hm.2.2.1 j hj).1]
    exact m_245 (hm.2.2.1 j hj) hj _ _
  have e223 : ∀ (n : Nat) (s : Int64), b_X5_checksum_223 (n + 1) s (nI 3) σ = some (s, σ) := by
    intro n s
    show (if nI 3 ≤ nI 3 then _ else _) = _
    rw [if_pos (by decide)]
  show b_X5_checksum_11 (196 + 1 + 1 + 1 + 1) 7 (nI 0) σ = _
  rw [s11 _ 0 _ (by omega), s11 _ 1 _ (by omega), s11 _ 2 _ (by omega), e11]
  show b_X5_checksum_98 (195 + 1 + 1 + 1 + 1 + 1) _ (nI 0) σ = _
  rw [s98 _ 0 _ (by omega), s98 _ 1 _ (by omega), s98 _ 2 _ (by omega), s98 _ 3 _ (by omega), e98]
  show b_X5_checksum_223 (196 + 1 + 1 + 1 + 1) _ (nI 0) σ = _
  rw [s223 _ 0 _ (by omega), s223 _ 1 _ (by omega), s223 _ 2 _ (by omega), e223]
  rfl
theorem a_checksum (h : RR σ) : ∃ c, f_X4_checksum σ = some c ∧ ok (f_X5_checksum σ) (fun q => q.1 = c ∧ RR q.2) := by
  have h' := h
  obtain ⟨A, V, H, D, P, ha, hc, hm⟩ := h'
  refine ⟨_, c_checksum ha hc, ?_⟩
  unfold f_X5_checksum
  refine ok_stl (fun σ1 e1 => ?_)
  have e : σ1 = rf 0 σ := e1
  rw [e, m_checksum ha (hm.scr (rf_R 0 σ))]
  exact ok_ret ⟨rfl, h.scr (rf_R 0 σ)⟩
/-! the self-test -/
theorem CR.cs (ha : AO A V D) (hc : CR σ A V H D P) (hm : MR σ A V H D P) : CS σ A H := by
  refine ⟨fun i hi => ⟨hc.1 i hi, ha.1 i hi, (hm.1 i hi).2.1⟩, fun j hj => hc.2.2.1 j hj, fun v hv => ?_⟩
  cases e : V v with
  | none => exact Or.inl (cv_none hc hv e)
  | some w => exact Or.inr ⟨w.1, VO.lt ha hv e, (cv_some hc hv e).1⟩
theorem RR.B (h : RR σ) (hf : frB σ σ') : RR σ' := by
  obtain ⟨A, V, H, D, P, ha, hc, hm⟩ := h
  refine ⟨A, V, H, D, P, ha, ⟨fun i hi => (hc.1 i hi).frB hf (t3 hi), fun v hv => (hc.2.1 v hv).same (hf _ (by omega)), fun u hu => (hc.2.2.1 u hu).frB hf (h3 hu), ?_, ?_⟩, hm.hi (fun k hk => hf k (by omega))⟩
  · rw [hf 0 (by omega), hf 5 (by omega)]; exact hc.2.2.2.1
  · rw [hf 0 (by omega)]; exact hc.2.2.2.2
theorem a_isSound (h : RR σ) : ok (f_X4_isSound σ) (fun q => q.1 = 1 ∧ ok (f_X5_isSound q.2) (fun p => p.1 = 1 ∧ RR p.2)) := by
  have h' := h
  obtain ⟨A, V, H, D, P, ha, hc, hm⟩ := h'
  refine ok_mono (c_sound (hc.cs ha hm)) (fun q hq => ⟨hq.1, ?_⟩)
  have h2 := h.B hq.2
  unfold f_X5_isSound
  refine ok_stl (fun σ1 e1 => ?_)
  have e : σ1 = rf 0 q.2 := e1
  rw [e]
  exact ok_ret ⟨rfl, h2.scr (rf_R 0 q.2)⟩
