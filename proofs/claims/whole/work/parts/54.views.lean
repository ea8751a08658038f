/-! spans over sorted lists; the views of the class and of the reference -/
theorem fu_at {σ : sM} {a b f g : Nat} {x : Int32} : va_up σ a (upd (σ a) f x) b g = if b = a ∧ g = f then x else σ b g := by
  by_cases h : b = a
  · subst h
    rw [up_s]
    by_cases h2 : g = f
    · subst h2; rw [upd_s, if_pos ⟨rfl, rfl⟩]
    · rw [upd_n h2, if_neg (fun c => h2 c.2)]
  · rw [up_n h, if_neg (fun c => h c.1)]
theorem cb_iff {L : LM} (hs : Srt L) {k : Int32} {j : Nat} (hj : j < L.length) : j < cb L k ↔ kA L j < k :=
  ⟨cb_lt, fun h => Decidable.byContradiction (fun c => cb_ge hs (Nat.le_of_not_lt c) hj h)⟩
theorem cu_le (L : LM) (k : Int32) : cu L k ≤ L.length := by
  have := cb_le L k
  unfold cu
  split
  · rename_i h; have := h.1; omega
  · exact this
theorem cu_iff {L : LM} (hs : Srt L) {k : Int32} {j : Nat} (hj : j < L.length) : j < cu L k ↔ kA L j ≤ k := by
  unfold cu
  by_cases h : hasP L k
  · rw [if_pos h]
    constructor
    · intro h2
      rcases Nat.lt_or_ge j (cb L k) with q | q
      · exact i_le.mpr (i_nlt (cb_lt q))
      · have e : j = cb L k := by omega
        rw [e, h.2]; exact i_le.mpr (i_irr k)
    · intro h2
      rcases Nat.lt_or_ge (cb L k) j with q | q
      · have := hs.lt q hj
        rw [h.2] at this
        exact absurd this (i_le.mp h2)
      · omega
  · rw [if_neg h, cb_iff hs hj]
    constructor
    · intro h2; exact i_le.mpr (i_nlt h2)
    · intro h2
      rcases Decidable.em (kA L j < k) with q | q
      · exact q
      · have e : kA L j = k := i_eq q (i_le.mp h2)
        refine absurd ?_ h
        have c1 : cb L k = j := by
          rcases Nat.lt_trichotomy (cb L k) j with z | z | z
          · exact absurd (hs.lt z hj) (by rw [e]; exact cb_ge hs (Nat.le_refl _) (by omega))
          · exact z
          · exact absurd (cb_lt z) q
        exact ⟨by omega, by rw [c1]; exact e⟩
/-- the places a span takes up -/
def bg (L : LM) (lo il : Int32) : Nat := if il = 0 then cu L lo else cb L lo
def sp (L : LM) (hi ih : Int32) : Nat := if ih = 0 then cb L hi else cu L hi
def en (L : LM) (lo il hi ih : Int32) : Nat := max (sp L hi ih) (bg L lo il)
def inV (lo il hi ih k : Int32) : Prop := (if il = 0 then lo < k else lo ≤ k) ∧ (if ih = 0 then k < hi else k ≤ hi)
theorem bg_le (L : LM) (lo il : Int32) : bg L lo il ≤ L.length := by
  unfold bg
  split
  · exact cu_le _ _
  · exact cb_le _ _
theorem sp_le (L : LM) (hi ih : Int32) : sp L hi ih ≤ L.length := by
  unfold sp
  split
  · exact cb_le _ _
  · exact cu_le _ _
theorem en_le (L : LM) (lo il hi ih : Int32) : en L lo il hi ih ≤ L.length := by
  have := bg_le L lo il; have := sp_le L hi ih; unfold en; omega
theorem bg_en (L : LM) (lo il hi ih : Int32) : bg L lo il ≤ en L lo il hi ih := by unfold en; omega
theorem bg_iff {L : LM} (hs : Srt L) {lo il : Int32} {j : Nat} (hj : j < L.length) : bg L lo il ≤ j ↔ (if il = 0 then lo < kA L j else lo ≤ kA L j) := by
  unfold bg
  by_cases c : il = 0
  · rw [if_pos c, if_pos c]
    have := cu_iff hs (k := lo) hj
    rw [i_le] at this
    constructor
    · intro h
      exact Decidable.byContradiction (fun q => by have := this.mpr q; omega)
    · intro h
      exact Nat.le_of_not_lt (fun q => this.mp q h)
  · rw [if_neg c, if_neg c, i_le]
    have := cb_iff hs (k := lo) hj
    constructor
    · intro h q; have := this.mpr q; omega
    · intro h; exact Nat.le_of_not_lt (fun q => h (this.mp q))
theorem sp_iff {L : LM} (hs : Srt L) {hi ih : Int32} {j : Nat} (hj : j < L.length) : j < sp L hi ih ↔ (if ih = 0 then kA L j < hi else kA L j ≤ hi) := by
  unfold sp
  by_cases c : ih = 0
  · rw [if_pos c, if_pos c]; exact cb_iff hs hj
  · rw [if_neg c, if_neg c]; exact cu_iff hs hj
theorem inV_iff {L : LM} (hs : Srt L) {lo il hi ih : Int32} {j : Nat} (hj : j < L.length) : inV lo il hi ih (kA L j) ↔ (bg L lo il ≤ j ∧ j < en L lo il hi ih) := by
  unfold inV
  rw [← bg_iff hs hj, ← sp_iff hs hj]
  unfold en
  omega
def cvr (lo il hi ih k : Int32) : Int32 := if (if il = 0 then lo < k else lo ≤ k) then (if (if ih = 0 then k < hi else k ≤ hi) then 1 else 0) else 0
theorem cvr_1 {lo il hi ih k : Int32} (h : inV lo il hi ih k) : cvr lo il hi ih k = 1 := by unfold cvr; rw [if_pos h.1, if_pos h.2]
theorem cvr_0 {lo il hi ih k : Int32} (h : ¬ inV lo il hi ih k) : cvr lo il hi ih k = 0 := by
  unfold cvr
  by_cases h1 : (if il = 0 then lo < k else lo ≤ k)
  · rw [if_pos h1, if_neg (fun h2 => h ⟨h1, h2⟩)]
  · rw [if_neg h1]
theorem cvr_01 (lo il hi ih k : Int32) : cvr lo il hi ih k = 0 ∨ cvr lo il hi ih k = 1 := by
  by_cases h : inV lo il hi ih k
  · exact Or.inr (cvr_1 h)
  · exact Or.inl (cvr_0 h)
theorem cvr_in {lo il hi ih k : Int32} (h : cvr lo il hi ih k ≠ 0) : inV lo il hi ih k := Classical.byContradiction (fun c => h (cvr_0 c))
theorem cvr_out {lo il hi ih k : Int32} (h : cvr lo il hi ih k = 0) : ¬ inV lo il hi ih k := fun c => by rw [cvr_1 c] at h; exact absurd h (by decide)
/-! the class's View -/
theorem c_beginIn {σ : sM} {v t : Nat} {L : LM} (hT : TB σ t L) (hs : Srt L) : f_X3_beginIn v t σ = some (nI (bg L (σ v 2) (σ v 3))) := by
  unfold f_X3_beginIn bg
  by_cases c : σ v 3 = 0
  · rw [if_pos c, if_pos c, tb_countUpTo hT hs]; rfl
  · rw [if_neg c, if_neg c, tb_countBelow hT hs]; rfl
theorem c_max {a b : Nat} (ha : a < 2 ^ 31) (hb : b < 2 ^ 31) : (if nI a < nI b then nI b else nI a) = nI (max a b) := by
  by_cases c : a < b
  · rw [if_pos ((nI_ltI ha hb).mpr c), Nat.max_eq_right (by omega)]
  · rw [if_neg (fun h => c ((nI_ltI ha hb).mp h)), Nat.max_eq_left (by omega)]
theorem c_stopIn {σ : sM} {v t : Nat} {L : LM} (hT : TB σ t L) (hs : Srt L) : f_X3_stopIn v t σ = some (nI (en L (σ v 2) (σ v 3) (σ v 4) (σ v 5))) := by
  have hl := hT.2.1
  have h1 := bg_le L (σ v 2) (σ v 3)
  have h2 := sp_le L (σ v 4) (σ v 5)
  have e : en L (σ v 2) (σ v 3) (σ v 4) (σ v 5) = max (sp L (σ v 4) (σ v 5)) (bg L (σ v 2) (σ v 3)) := rfl
  rw [e, ← c_max (by omega) (by omega)]
  unfold f_X3_stopIn sp
  by_cases c : σ v 5 = 0
  · rw [if_pos c, if_pos c, tb_countBelow hT hs, rthn_e, c_beginIn hT hs, rthn_e]
  · rw [if_neg c, if_neg c, tb_countUpTo hT hs, rthn_e, c_beginIn hT hs, rthn_e]
def many (L : LM) (lo il hi ih : Int32) : Nat := en L lo il hi ih - bg L lo il
theorem c_countEntries {σ : sM} {v t : Nat} {L : LM} (hT : TB σ t L) (hs : Srt L) (ht : isT t) (h0 : σ v 0 = nI t) : f_X3_countEntries v σ = some (nI (many L (σ v 2) (σ v 3) (σ v 4) (σ v 5))) := by
  unfold f_X3_countEntries
  rw [h0, sSrc_nI ht]
  show rthn (f_X3_stopIn v t σ) _ = _
  rw [c_stopIn hT hs, rthn_e, c_beginIn hT hs, rthn_e, pk_sub (bg_en _ _ _ _ _)]
  rfl
theorem c_countNone {σ : sM} {v : Nat} (h0 : σ v 0 = 0) : f_X3_countEntries v σ = some (-1) := by
  unfold f_X3_countEntries
  rw [h0, sSrc_0]
  rfl
theorem c_cov36 {σ : sM} {v : Nat} (k x : Int32) : b_X3_covers_36 v k x σ = some (if x = 0 then (if (if σ v 5 = 0 then k < σ v 4 else k ≤ σ v 4) then 1 else 0) else 0) := by
  unfold b_X3_covers_36
  by_cases c : σ v 5 = 0
  · rw [if_pos c]
    by_cases c2 : k < σ v 4
    · rw [if_pos c2]; by_cases c3 : x = 0
      · rw [if_pos c3, if_pos c3, if_pos (by rw [if_pos c]; exact c2)]
      · rw [if_neg c3, if_neg c3]
    · rw [if_neg c2]; by_cases c3 : x = 0
      · rw [if_pos c3, if_pos c3, if_neg (by rw [if_pos c]; exact c2)]
      · rw [if_neg c3, if_neg c3]
  · rw [if_neg c]
    by_cases c2 : k ≤ σ v 4
    · rw [if_pos c2]; by_cases c3 : x = 0
      · rw [if_pos c3, if_pos c3, if_pos (by rw [if_neg c]; exact c2)]
      · rw [if_neg c3, if_neg c3]
    · rw [if_neg c2]; by_cases c3 : x = 0
      · rw [if_pos c3, if_pos c3, if_neg (by rw [if_neg c]; exact c2)]
      · rw [if_neg c3, if_neg c3]
theorem c_covers (σ : sM) (v : Nat) (k : Int32) : f_X3_covers v k σ = some (cvr (σ v 2) (σ v 3) (σ v 4) (σ v 5) k) := by
  unfold f_X3_covers cvr
  by_cases c3 : (if σ v 3 = 0 then σ v 2 < k else σ v 2 ≤ k)
  · rw [if_pos c3]
    by_cases c : σ v 3 = 0
    · rw [if_pos c] at c3
      rw [if_pos c, if_pos c3, c_cov36, if_pos rfl]
    · rw [if_neg c] at c3
      rw [if_neg c, if_pos c3, c_cov36, if_pos rfl]
  · rw [if_neg c3]
    by_cases c : σ v 3 = 0
    · rw [if_pos c] at c3
      rw [if_pos c, if_neg c3, c_cov36, if_neg (by decide)]
    · rw [if_neg c] at c3
      rw [if_neg c, if_neg c3, c_cov36, if_neg (by decide)]
theorem c_just {σ : sM} {v t : Nat} {L : LM} (hT : TB σ t L) (hs : Srt L) (ht : isT t) (h0 : σ v 0 = nI t) : f_X3_hasJustItsSpan v σ = some 1 := by
  have hl := hT.2.1
  have hb := bg_le L (σ v 2) (σ v 3)
  have he := en_le L (σ v 2) (σ v 3) (σ v 4) (σ v 5)
  have loop : ∀ (d j n : Nat), L.length = j + d → d + 1 ≤ n → b_X3_hasJustItsSpan_26 n v t (nI (bg L (σ v 2) (σ v 3))) (nI (en L (σ v 2) (σ v 3) (σ v 4) (σ v 5))) (nI j) σ = some 1 := by
    intro d
    induction d with
    | zero =>
      intro j n hj hn
      obtain ⟨n, rfl⟩ : ∃ z, n = z + 1 := ⟨n - 1, by omega⟩
      show (if (σ t 2) ≤ nI j then _ else _) = _
      rw [hT.1, if_pos (nI_le (by omega) (by omega))]
    | succ d ih =>
      intro j n hj hn
      obtain ⟨n, rfl⟩ : ∃ z, n = z + 1 := ⟨n - 1, by omega⟩
      have q : ¬ nI L.length ≤ nI j := nI_ge (by omega) (by omega)
      have hin : inb (nI j) 120 = true := inb_nI (by omega) (by omega)
      have hk : σ (t + 1) (nI j).toNatClampNeg = kA L j := by rw [nI_clamp (by omega)]; exact (hT.2.2 j (by omega)).1
      have nx := ih (j + 1) n (by omega) (by omega)
      have iff := inV_iff hs (lo := σ v 2) (il := σ v 3) (hi := σ v 4) (ih := σ v 5) (j := j) (by omega)
      have out : ¬ (bg L (σ v 2) (σ v 3) ≤ j ∧ j < en L (σ v 2) (σ v 3) (σ v 4) (σ v 5)) → b_X3_hasJustItsSpan_51 (b_X3_hasJustItsSpan_26 n) v t (nI (bg L (σ v 2) (σ v 3))) (nI (en L (σ v 2) (σ v 3) (σ v 4) (σ v 5))) (nI j) σ = some 1 := by
        intro h
        unfold b_X3_hasJustItsSpan_51
        rw [chk_true hin, hk, c_covers, rthn_e, cvr_0 (fun c => h (iff.mp c)), if_pos rfl, nI_1]
        exact nx
      show (if (σ t 2) ≤ nI j then _ else _) = _
      rw [hT.1, if_neg q]
      by_cases c1 : j < bg L (σ v 2) (σ v 3)
      · rw [if_pos (nI_lt c1 (by omega))]
        exact out (by omega)
      · rw [if_neg (nI_nlt (by omega) (by omega))]
        by_cases c2 : en L (σ v 2) (σ v 3) (σ v 4) (σ v 5) ≤ j
        · rw [if_pos (nI_le c2 (by omega))]
          exact out (by omega)
        · rw [if_neg (nI_ge (by omega) (by omega)), chk_true hin, hk, c_covers, rthn_e, cvr_1 (iff.mpr ⟨by omega, by omega⟩), if_pos rfl, nI_1]
          exact nx
  unfold f_X3_hasJustItsSpan
  rw [h0, sSrc_nI ht]
  show rthn (f_X3_beginIn v t σ) _ = _
  rw [c_beginIn hT hs, rthn_e, c_stopIn hT hs, rthn_e]
  exact loop L.length 0 FU (by omega) (by unfold FU; omega)
theorem c_justNone {σ : sM} {v : Nat} (h0 : σ v 0 = 0) : f_X3_hasJustItsSpan v σ = some 1 := by
  unfold f_X3_hasJustItsSpan
  rw [h0, sSrc_0]
  rfl
/-! the reference's views -/
theorem m_isView (v : Int32) (σ : sM) : f_X5_isView v σ = some (if v < 0 then 0 else if (3 : Int32) < v then 0 else 1) := by
  unfold f_X5_isView f_X5_in
  by_cases c : v < 0
  · rw [if_pos c, if_pos c]; rfl
  · rw [if_neg c, if_neg c]
    by_cases c2 : (3 : Int32) < v
    · rw [if_pos c2, if_pos c2]; rfl
    · rw [if_neg c2, if_neg c2]; rfl
theorem m_isHistory (v : Int32) (σ : sM) : f_X5_isHistory v σ = some (if v < 0 then 0 else if (2 : Int32) < v then 0 else 1) := by
  unfold f_X5_isHistory f_X5_in
  by_cases c : v < 0
  · rw [if_pos c, if_pos c]; rfl
  · rw [if_neg c, if_neg c]
    by_cases c2 : (2 : Int32) < v
    · rw [if_pos c2, if_pos c2]; rfl
    · rw [if_neg c2, if_neg c2]; rfl
theorem m_isIn (σ : sM) {v : Nat} (hv : v < 4) (k : Int32) : f_X5_isIn (nI v) k σ = some (cvr (σ 50 v) (σ 52 v) (σ 51 v) (σ 53 v) k) := by
  have hin : inb (nI v) 4 = true := inb_nI hv (by omega)
  have hc : (nI v).toNatClampNeg = v := nI_clamp (by omega)
  have h42 : ∀ x, b_X5_isIn_42 (nI v) k x σ = some (if x = 0 then 0 else (if (if σ 53 v = 0 then k < σ 51 v else k ≤ σ 51 v) then 1 else 0)) := by
    intro x
    unfold b_X5_isIn_42
    rw [chk_true hin, hc]
    by_cases c : σ 53 v = 0
    · rw [if_pos c, chk_true hin]
      by_cases c2 : σ 51 v ≤ k
      · rw [if_pos c2]
        have c3 : ¬ (if σ 53 v = 0 then k < σ 51 v else k ≤ σ 51 v) := by rw [if_pos c]; exact i_le.mp c2
        rw [if_neg c3]
        split <;> rfl
      · rw [if_neg c2]
        have c3 : (if σ 53 v = 0 then k < σ 51 v else k ≤ σ 51 v) := by rw [if_pos c]; exact Decidable.byContradiction (fun q => c2 (i_le.mpr q))
        rw [if_pos c3]
        split <;> rfl
    · rw [if_neg c, chk_true hin]
      by_cases c2 : σ 51 v < k
      · rw [if_pos c2]
        have c3 : ¬ (if σ 53 v = 0 then k < σ 51 v else k ≤ σ 51 v) := by rw [if_neg c]; exact fun h => i_le.mp h c2
        rw [if_neg c3]
        split <;> rfl
      · rw [if_neg c2]
        have c3 : (if σ 53 v = 0 then k < σ 51 v else k ≤ σ 51 v) := by rw [if_neg c]; exact i_le.mpr c2
        rw [if_pos c3]
        split <;> rfl
  unfold f_X5_isIn cvr
  rw [chk_true hin, hc]
  by_cases c3 : (if σ 52 v = 0 then σ 50 v < k else σ 50 v ≤ k)
  · rw [if_pos c3]
    by_cases c : σ 52 v = 0
    · rw [if_pos c] at c3
      rw [if_pos c, chk_true hin, if_neg (fun h => i_le.mp h c3), h42, if_neg (by decide)]
    · rw [if_neg c] at c3
      rw [if_neg c, chk_true hin, if_neg (i_le.mp c3), h42, if_neg (by decide)]
  · rw [if_neg c3]
    by_cases c : σ 52 v = 0
    · rw [if_pos c] at c3
      rw [if_pos c, chk_true hin, if_pos (i_le.mpr c3), h42, if_pos rfl]
    · rw [if_neg c] at c3
      rw [if_neg c, chk_true hin, if_pos (Decidable.byContradiction (fun q => c3 (i_le.mpr q))), h42, if_pos rfl]
theorem m_firstOf {σ : sM} {v i : Nat} {L : LM} (hM : MB σ i L) (hs : Srt L) (hi : i < 3) (hv : v < 4) (h0 : σ 49 v = nI i) : f_X5_firstOf (nI v) σ = some (nI (bg L (σ 50 v) (σ 52 v))) := by
  have hl := hM.2.1
  have hb := bg_le L (σ 50 v) (σ 52 v)
  have hin : inb (nI v) 4 = true := inb_nI hv (by omega)
  have hc : (nI v).toNatClampNeg = v := nI_clamp (by omega)
  have hin2 : inb (nI i) 3 = true := inb_nI hi (by omega)
  have hc2 : (nI i).toNatClampNeg = i := nI_clamp (by omega)
  have loop : ∀ (d j n : Nat), bg L (σ 50 v) (σ 52 v) = j + d → d + 1 ≤ n → b_X5_firstOf_9 n (nI v) (nI i) (nI j) σ = some (nI (bg L (σ 50 v) (σ 52 v))) := by
    intro d
    induction d with
    | zero =>
      intro j n hj hn
      obtain ⟨n, rfl⟩ : ∃ z, n = z + 1 := ⟨n - 1, by omega⟩
      rw [Nat.add_zero] at hj
      show (chk (inb (nI i) 3) (if (σ 47 (nI i).toNatClampNeg) ≤ nI j then some (nI j) else _)) = _
      rw [chk_true hin2, hc2, hM.1]
      by_cases q : L.length ≤ j
      · rw [if_pos (nI_le q (by omega)), hj]
      · rw [if_neg (nI_ge (by omega) (by omega)), ix, chk_true (inb_nI (by omega) (by omega)), chk_true hin, hc, nI_clamp (by omega), (hM.2.2 j (by omega)).1]
        have f := (bg_iff hs (lo := σ 50 v) (il := σ 52 v) (j := j) (by omega)).mp (by omega)
        have n1 : ¬ kA L j < σ 50 v := by
          by_cases z : σ 52 v = 0
          · rw [if_pos z] at f; exact i_nlt f
          · rw [if_neg z] at f; exact i_le.mp f
        rw [if_neg n1, chk_true (inb_nI (by omega) (by omega)), chk_true hin]
        by_cases z2 : kA L j = σ 50 v
        · rw [if_pos z2, chk_true hin]
          have z : ¬ σ 52 v = 0 := fun z => by rw [if_pos z, z2] at f; exact i_irr _ f
          rw [if_neg z, hj]
        · rw [if_neg z2, hj]
    | succ d ih =>
      intro j n hj hn
      obtain ⟨n, rfl⟩ : ∃ z, n = z + 1 := ⟨n - 1, by omega⟩
      show (chk (inb (nI i) 3) (if (σ 47 (nI i).toNatClampNeg) ≤ nI j then some (nI j) else _)) = _
      rw [chk_true hin2, hc2, hM.1, if_neg (nI_ge (by omega) (by omega)), ix, chk_true (inb_nI (by omega) (by omega)), chk_true hin, hc, nI_clamp (by omega), (hM.2.2 j (by omega)).1]
      have nx := ih (j + 1) n (by omega) (by omega)
      have f := (bg_iff hs (lo := σ 50 v) (il := σ 52 v) (j := j) (by omega))
      have f2 : ¬ (if σ 52 v = 0 then σ 50 v < kA L j else σ 50 v ≤ kA L j) := fun h => by have := f.mpr h; omega
      by_cases z1 : kA L j < σ 50 v
      · rw [if_pos z1, nI_1]; exact nx
      · rw [if_neg z1, chk_true (inb_nI (by omega) (by omega)), chk_true hin]
        by_cases z : σ 52 v = 0
        · rw [if_pos z] at f2
          rw [if_pos (i_eq z1 f2), chk_true hin, if_pos z, nI_1]
          exact nx
        · rw [if_neg z] at f2
          exact absurd (i_le.mpr z1) f2
  unfold f_X5_firstOf
  rw [chk_true hin, hc, h0]
  exact loop (bg L (σ 50 v) (σ 52 v)) 0 FU (by omega) (by unfold FU; omega)
theorem m_behindOf {σ : sM} {v i : Nat} {L : LM} (hM : MB σ i L) (hs : Srt L) (hi : i < 3) (hv : v < 4) (h0 : σ 49 v = nI i) : f_X5_behindOf (nI v) σ = some (nI (en L (σ 50 v) (σ 52 v) (σ 51 v) (σ 53 v))) := by
  have hl := hM.2.1
  have hb := bg_le L (σ 50 v) (σ 52 v)
  have he := en_le L (σ 50 v) (σ 52 v) (σ 51 v) (σ 53 v)
  have hbe := bg_en L (σ 50 v) (σ 52 v) (σ 51 v) (σ 53 v)
  have hin : inb (nI v) 4 = true := inb_nI hv (by omega)
  have hc : (nI v).toNatClampNeg = v := nI_clamp (by omega)
  have hin2 : inb (nI i) 3 = true := inb_nI hi (by omega)
  have hc2 : (nI i).toNatClampNeg = i := nI_clamp (by omega)
  have loop : ∀ (d j n : Nat), en L (σ 50 v) (σ 52 v) (σ 51 v) (σ 53 v) = j + d → bg L (σ 50 v) (σ 52 v) ≤ j → d + 1 ≤ n → b_X5_behindOf_13 n (nI v) (nI i) (nI j) σ = some (nI (en L (σ 50 v) (σ 52 v) (σ 51 v) (σ 53 v))) := by
    intro d
    induction d with
    | zero =>
      intro j n hj hg hn
      obtain ⟨n, rfl⟩ : ∃ z, n = z + 1 := ⟨n - 1, by omega⟩
      rw [Nat.add_zero] at hj
      show (chk (inb (nI i) 3) (if (σ 47 (nI i).toNatClampNeg) ≤ nI j then some (nI j) else _)) = _
      rw [chk_true hin2, hc2, hM.1]
      by_cases q : L.length ≤ j
      · rw [if_pos (nI_le q (by omega)), hj]
      · rw [if_neg (nI_ge (by omega) (by omega)), ix, chk_true (inb_nI (by omega) (by omega)), nI_clamp (by omega), (hM.2.2 j (by omega)).1, m_isIn σ hv, rthn_e, cvr_0 (fun h => by have := (inV_iff hs (by omega)).mp h; omega), if_pos rfl, hj]
    | succ d ih =>
      intro j n hj hg hn
      obtain ⟨n, rfl⟩ : ∃ z, n = z + 1 := ⟨n - 1, by omega⟩
      show (chk (inb (nI i) 3) (if (σ 47 (nI i).toNatClampNeg) ≤ nI j then some (nI j) else _)) = _
      rw [chk_true hin2, hc2, hM.1, if_neg (nI_ge (by omega) (by omega)), ix, chk_true (inb_nI (by omega) (by omega)), nI_clamp (by omega), (hM.2.2 j (by omega)).1, m_isIn σ hv, rthn_e, cvr_1 ((inV_iff hs (by omega)).mpr ⟨by omega, by omega⟩), if_neg (by decide), nI_1]
      exact ih (j + 1) n (by omega) (by omega) (by omega)
  unfold f_X5_behindOf
  rw [chk_true hin, m_firstOf hM hs hi hv h0, rthn_e, hc, h0]
  exact loop (en L (σ 50 v) (σ 52 v) (σ 51 v) (σ 53 v) - bg L (σ 50 v) (σ 52 v)) _ FU (by omega) (Nat.le_refl _) (by unfold FU; omega)
theorem m_manyOf {σ : sM} {v i : Nat} {L : LM} (hM : MB σ i L) (hs : Srt L) (hi : i < 3) (hv : v < 4) (h0 : σ 49 v = nI i) : f_X5_manyOf (nI v) σ = some (nI (many L (σ 50 v) (σ 52 v) (σ 51 v) (σ 53 v))) := by
  unfold f_X5_manyOf
  rw [m_behindOf hM hs hi hv h0, rthn_e, m_firstOf hM hs hi hv h0, rthn_e, pk_sub (bg_en _ _ _ _ _)]
  rfl
