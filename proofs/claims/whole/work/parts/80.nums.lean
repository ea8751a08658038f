/-! shares and means: no NaN -/
variable {σ σ' : sM} {A : Nat → LM} {V : Nat → Option VW} {H : Nat → LH} {D : List Int32} {P : Option Int32}
theorem nn64_of {x : UInt64} (h : Jvm.FP.Core.dIsNaN x = false) : nn64 x = true := by
  unfold nn64
  refine decide_eq_true ?_
  rw [UInt64.le_iff_toNat_le, UInt64.toNat_and]
  have h1 : (0x7fffffffffffffff : UInt64).toNat = 2 ^ 63 - 1 := by decide
  have h2 : (0x7ff0000000000000 : UInt64).toNat = 9218868437227405312 := by decide
  rw [h1, h2, Nat.and_two_pow_sub_one_eq_mod]
  rw [← Bool.not_eq_true, Jvm.FP.Core.isNaN_bits] at h
  omega
theorem nn32_of {x : UInt32} (h : Jvm.FP.Core.fIsNaN x = false) : nn32 x = true := by
  unfold nn32
  refine decide_eq_true ?_
  rw [UInt32.le_iff_toNat_le, UInt32.toNat_and]
  have h1 : (0x7fffffff : UInt32).toNat = 2 ^ 31 - 1 := by decide
  have h2 : (0x7f800000 : UInt32).toNat = 2139095040 := by decide
  rw [h1, h2, Nat.and_two_pow_sub_one_eq_mod]
  rw [← Bool.not_eq_true, Jvm.FP.Core.isNaN_bits32] at h
  omega
theorem dcm_self {x : UInt64} (h : Jvm.FP.Core.dIsNaN x = false) : Op.cmpValue (FP.dcmp x x) .l = 0 := by
  have e : FP.dcmp x x = some .eq := Jvm.FP.Core.dcmp_self (fun q => by rw [(Jvm.FP.Core.dIsNaN_iff x).mpr q] at h; cases h)
  rw [e]; rfl
theorem mean_no (s : Int64) {n : Nat} (h0 : 0 < n) (hn : n ≤ 60) : Jvm.FP.Core.dIsNaN (FP.ddiv (FP.l2d s) (FP.i2d (nI n))) = false := by
  refine Jvm.FP.Core.ddiv_out ?_ (Jvm.FP.Core.i2d_fin _) ?_
  · rw [← Bool.not_eq_true, Jvm.FP.Core.isNaN_bits]
    have := Jvm.FP.Core.l2d_mag s
    show ¬ 9218868437227405312 < (Jvm.FP.Core.l2d s).toNat % 2 ^ 63
    omega
  · rw [Jvm.FP.Core.zero_bits2]
    have h := (Jvm.FP.Core.i2d_big (v := nI n) (by rw [nI_toInt (by omega)]; omega)).1
    show ¬ (Jvm.FP.Core.i2d (nI n)).toNat % 2 ^ 63 = 0
    omega
theorem share_no (v : Int32) : Jvm.FP.Core.fIsNaN (FP.fdiv (FP.i2f v) (1114636288 : UInt32)) = false := by
  refine Jvm.FP.Core.fdiv_out ?_ ?_ ?_
  · rw [← Bool.not_eq_true, Jvm.FP.Core.isNaN_bits32]
    have := Jvm.FP.Core.i2f_mag v
    show ¬ 2139095040 < (Jvm.FP.Core.i2f v).toNat % 2 ^ 31
    omega
  · rw [Jvm.FP.Core.fin_bits32]; decide
  · rw [Jvm.FP.Core.zero_bits232]; decide
theorem share_no2 (v : Int32) : Jvm.FP.Core.dIsNaN (FP.f2d (FP.fdiv (FP.i2f v) (1114636288 : UInt32))) = false := (FP.f2d_nan _).trans (share_no v)
theorem a_fullShare (v1 : Int32) (h : RR σ) : ok (f_X4_fullShare v1 σ) (fun q => agP (cod1 xI) (f_X5_fullShare v1) q ∧ ∀ r, q.1 = .inr r → Jvm.FP.Core.dIsNaN (FP.f2d r) = false) := by
  have a : agF (cod1 xI) (f_X4_fullShare v1 σ) (f_X5_fullShare v1) ∧ ∀ r σ', f_X4_fullShare v1 σ = some (.inr r, σ') → Jvm.FP.Core.dIsNaN (FP.f2d r) = false := by
    unfold f_X4_fullShare f_X5_fullShare
    rcases cl3 v1 with b | ⟨i, hi, rfl⟩
    · rw [map_no b, thn_e]
      refine ⟨agF_e (c := 1) (by decide) (by decide) ?_, fun r σ' q => by cases q⟩
      rw [mm_no b, rthn_e, if_pos rfl]
      exact m_no (by decide) h (fun _ => if_neg (by decide))
    · have h' := h
      obtain ⟨A, V, H, D, P, ha, hc, hm⟩ := h'
      have m2 := (hm.scr (rf_R 0 σ)).1 i hi
      rw [map_at hi, thn_r, chk_true (tb3 hi), chk_true (nn32_of (share_no _))]
      refine ⟨agF_r ?_, fun r σ' q => by
        have q1 := congrArg Prod.fst (Option.some.inj q)
        have q2 := Sum.inr.inj q1
        rw [← q2]
        exact share_no2 _⟩
      rw [mm_at hi, rthn_e, if_neg (by decide), m_ref0, wthn_e, if_pos rfl]
      refine ok_chk (inb_nI hi (by omega)) (ok_chk (nn32_of (share_no _)) (ok_ret ⟨rf_20 0 σ, ?_, h.scr (rf_R 0 σ)⟩))
      rw [nI_clamp (n := i) (by omega), m2.1, (hc.1 i hi).1]
  obtain ⟨q, e, hq⟩ := a.1
  exact ⟨q, e, hq, fun r hr => a.2 r q.2 (by rw [e, ← hr])⟩
def smK : LM → Int64 → Int64
  | [], c => c
  | a :: r, c => smK r (c + a.1.toInt64)
theorem c_mean28 {t : Nat} {L : LM} (hT : TB σ t L) (h0 : 0 < L.length) (h60 : L.length ≤ 60) : b_X4_meanKey_28 FU t 0 0 σ = some (.inr (FP.ddiv (FP.l2d (smK L 0)) (FP.i2d (nI L.length))), σ) := by
  have loop : ∀ (R : LM) (j n : Nat) (c : Int64), L.drop j = R → j ≤ 60 → R.length + 1 ≤ n → b_X4_meanKey_28 n t c (nI j) σ = some (.inr (FP.ddiv (FP.l2d (smK R c)) (FP.i2d (nI L.length))), σ) := by
    intro R
    induction R with
    | nil =>
      intro j n c hd hj hn
      obtain ⟨n, rfl⟩ : ∃ z, n = z + 1 := ⟨n - 1, by omega⟩
      show (if (σ t 2) ≤ nI j then _ else _) = _
      rw [hT.1, if_pos (nI_le (List.drop_eq_nil_iff.mp hd) (by omega)), chk_true (nn64_of (mean_no c h0 h60))]
      rfl
    | cons s r ih =>
      intro j n c hd hj hn
      obtain ⟨n, rfl⟩ : ∃ z, n = z + 1 := ⟨n - 1, by omega⟩
      have hc1 : (s :: r : LM).length = r.length + 1 := rfl
      obtain ⟨hj2, k1, k2, hd1⟩ := kA_drop hd
      show (if (σ t 2) ≤ nI j then _ else _) = _
      rw [hT.1, if_neg (nI_ge hj2 (by omega)), chk_true (inb_nI (by omega) (by omega)), nI_clamp (by omega), (hT.2.2 j hj2).1, k1, nI_1]
      exact ih (j + 1) n _ hd1 (by omega) (by omega)
  exact loop L 0 FU 0 rfl (by omega) (by unfold FU; omega)
theorem m_mean39 {i : Nat} {L : LM} (hM : MB σ i L) (hi : i < 3) (h0 : 0 < L.length) : b_X5_meanKey_39 FU (nI i) 0 0 σ = some (FP.ddiv (FP.l2d (smK L 0)) (FP.i2d (nI L.length)), σ) := by
  have hl := hM.2.1
  have hin : inb (nI i) 3 = true := inb_nI hi (by omega)
  have hci : (nI i).toNatClampNeg = i := nI_clamp (by omega)
  have loop : ∀ (R : LM) (j n : Nat) (c : Int64), L.drop j = R → j ≤ 60 → R.length + 1 ≤ n → b_X5_meanKey_39 n (nI i) c (nI j) σ = some (FP.ddiv (FP.l2d (smK R c)) (FP.i2d (nI L.length)), σ) := by
    intro R
    induction R with
    | nil =>
      intro j n c hd hj hn
      obtain ⟨n, rfl⟩ : ∃ z, n = z + 1 := ⟨n - 1, by omega⟩
      show (chk (inb (nI i) 3) (if (σ 47 (nI i).toNatClampNeg) ≤ nI j then _ else _)) = _
      rw [chk_true hin, hci, hM.1, if_pos (nI_le (List.drop_eq_nil_iff.mp hd) (by omega)), chk_true hin, chk_true (nn64_of (mean_no c h0 hl))]
      rfl
    | cons s r ih =>
      intro j n c hd hj hn
      obtain ⟨n, rfl⟩ : ∃ z, n = z + 1 := ⟨n - 1, by omega⟩
      have hc1 : (s :: r : LM).length = r.length + 1 := rfl
      obtain ⟨hj2, k1, k2, hd1⟩ := kA_drop hd
      show (chk (inb (nI i) 3) (if (σ 47 (nI i).toNatClampNeg) ≤ nI j then _ else _)) = _
      rw [chk_true hin, hci, hM.1, if_neg (nI_ge hj2 (by omega)), ix, chk_true (inb_nI (by omega) (by omega)), nI_clamp (by omega), (hM.2.2 j hj2).1, k1, nI_1]
      exact ih (j + 1) n _ hd1 (by omega) (by omega)
  exact loop L 0 FU 0 rfl (by omega) (by unfold FU; omega)
theorem a_meanKey (v1 : Int32) (h : RR σ) : ok (f_X4_meanKey v1 σ) (fun q => agP (cod2 xI xM) (f_X5_meanKey v1) q ∧ ∀ r, q.1 = .inr r → Jvm.FP.Core.dIsNaN r = false) := by
  have a : agF (cod2 xI xM) (f_X4_meanKey v1 σ) (f_X5_meanKey v1) ∧ ∀ r σ', f_X4_meanKey v1 σ = some (.inr r, σ') → Jvm.FP.Core.dIsNaN r = false := by
    unfold f_X4_meanKey f_X5_meanKey
    rcases cl3 v1 with b | ⟨i, hi, rfl⟩
    · rw [map_no b, thn_e]
      refine ⟨agF_e (c := 1) (by decide) (by decide) ?_, fun r σ' q => by cases q⟩
      rw [mm_no b, rthn_e, if_pos rfl]
      exact m_no (by decide) h (fun _ => if_neg (by decide))
    · have h' := h
      obtain ⟨A, V, H, D, P, ha, hc, hm⟩ := h'
      have hM := hm.1 i hi
      have m2 := (hm.scr (rf_R 0 σ)).1 i hi
      have hl := hM.2.1
      have hin : inb (nI i) 3 = true := inb_nI hi (by omega)
      have hci : (nI i).toNatClampNeg = i := nI_clamp (by omega)
      rw [map_at hi, thn_r, chk_true (tb3 hi), (hc.1 i hi).1]
      by_cases h0 : (A i).length = 0
      · rw [h0, if_pos nI_0]
        refine ⟨agF_e (c := 2) (by decide) (by decide) ?_, fun r σ' q => by cases q⟩
        rw [mm_at hi, rthn_e, if_neg (by decide), chk_true hin, hci, hM.1, h0, if_pos nI_0]
        exact m_no (by decide) h (fun _ => if_neg (by decide))
      · have hne : ¬ nI (A i).length = (0 : Int32) := fun q => h0 ((nI_eq (a := (A i).length) (b := 0) (by omega) (by omega)).mp q)
        rw [if_neg hne, c_mean28 (hc.1 i hi) (by omega) hl]
        refine ⟨agF_r ?_, fun r σ' q => by
          have q1 := congrArg Prod.fst (Option.some.inj q)
          have q2 := Sum.inr.inj q1
          rw [← q2]
          exact mean_no _ (by omega) hl⟩
        rw [mm_at hi, rthn_e, if_neg (by decide), chk_true hin, hci, hM.1, if_neg hne, m_ref0, wthn_e, if_pos rfl, m_mean39 m2 hi (by omega)]
        exact ok_ret ⟨rf_20 0 σ, rfl, h.scr (rf_R 0 σ)⟩
  obtain ⟨q, e, hq⟩ := a.1
  exact ⟨q, e, hq, fun r hr => a.2 r q.2 (by rw [e, ← hr])⟩
