/-! the law's loop: class and reference answer alike at every call, for ever -/
variable {σ σ' : sM}
theorem ite_c {c : Prop} [Decidable c] {a b : Option Int32} {r : Option Int32} (h1 : c → a = r) (h2 : ¬ c → b = r) : (if c then a else b) = r := by
  by_cases q : c
  · rw [if_pos q]; exact h1 q
  · rw [if_neg q]; exact h2 q
theorem ck_ {b : Bool} {k r : Option Int32} (h : b = true) (hk : k = r) : chk b k = r := by rw [chk_true h]; exact hk
theorem lg_self (x : Int64) : lg_cmp x x = 0 := by
  unfold lg_cmp
  rw [if_neg (by rw [gt_iff_lt, Int64.lt_iff_toInt_lt]; omega), if_pos rfl]
theorem hh1 {a E : String} {σ1 : sM} {X : sX} (h : cod1 a E ≠ 0) : (if E = a then some ((1 : Int32), σ1, X) else none) = some (cod1 a E, σ1, X) := by
  unfold cod1 at *
  by_cases c : E = a
  · rw [if_pos c, if_pos c]
  · rw [if_neg c] at h; exact absurd rfl h
theorem hh2 {a b E : String} {σ1 : sM} {X : sX} (h : cod2 a b E ≠ 0) : (if E = a then some ((1 : Int32), σ1, X) else if E = b then some ((2 : Int32), σ1, X) else none) = some (cod2 a b E, σ1, X) := by
  unfold cod2 at *
  by_cases c : E = a
  · rw [if_pos c, if_pos c]
  · rw [if_neg c] at h; rw [if_neg c, if_neg c]
    by_cases d : E = b
    · rw [if_pos d, if_pos d]
    · rw [if_neg d] at h; exact absurd rfl h
theorem hh3 {a b d E : String} {σ1 : sM} {X : sX} (h : cod3 a b d E ≠ 0) : (if E = a then some ((1 : Int32), σ1, X) else if E = b then some ((2 : Int32), σ1, X) else if E = d then some ((3 : Int32), σ1, X) else none) = some (cod3 a b d E, σ1, X) := by
  unfold cod3 at *
  by_cases c : E = a
  · rw [if_pos c, if_pos c]
  · rw [if_neg c] at h; rw [if_neg c, if_neg c]
    by_cases c2 : E = b
    · rw [if_pos c2, if_pos c2]
    · rw [if_neg c2] at h; rw [if_neg c2, if_neg c2]
      by_cases c3 : E = d
      · rw [if_pos c3, if_pos c3]
      · rw [if_neg c3] at h; exact absurd rfl h
theorem hh4 {a b d e E : String} {σ1 : sM} {X : sX} (h : cod4 a b d e E ≠ 0) : (if E = a then some ((1 : Int32), σ1, X) else if E = b then some ((2 : Int32), σ1, X) else if E = d then some ((3 : Int32), σ1, X) else if E = e then some ((4 : Int32), σ1, X) else none) = some (cod4 a b d e E, σ1, X) := by
  unfold cod4 at *
  by_cases c : E = a
  · rw [if_pos c, if_pos c]
  · rw [if_neg c] at h; rw [if_neg c, if_neg c]
    by_cases c2 : E = b
    · rw [if_pos c2, if_pos c2]
    · rw [if_neg c2] at h; rw [if_neg c2, if_neg c2]
      by_cases c3 : E = d
      · rw [if_pos c3, if_pos c3]
      · rw [if_neg c3] at h; rw [if_neg c3, if_neg c3]
        by_cases c4 : E = e
        · rw [if_pos c4, if_pos c4]
        · rw [if_neg c4] at h; exact absurd rfl h
abbrev z0 : Nat := ((0 : Int32)).toNatClampNeg
theorem l_int {cod : String → Int32} {f : Option ((String ⊕ Int32) × sM)} {g : sM → Option (Int32 × sM)} {h : String → sM → Option (Int32 × (sM × sX))} {X : sX} {k : Int32 → sM → sX → Option Int32} (a : agF cod f g) (hh : ∀ E σ1, cod E ≠ 0 → h E σ1 = some (cod E, σ1, X)) (hk : ∀ c σ1 X1, ok (g σ1) (fun p => p.2 44 20 = c ∧ RR p.2 ∧ (c = 0 → X1.1 z0 = p.1.toInt64)) → k c σ1 X1 = some 1) : lthn (cthn f h (fun r σ1 => some ((0 : Int32), σ1, (vp_updL X.1 ((0 : Int32)).toNatClampNeg (r.toInt64), X.2)))) k = some 1 := by
  obtain ⟨⟨o, σ1⟩, e, hq⟩ := a
  rw [e]
  cases o with
  | inl E =>
    have hq : cod E ≠ 0 ∧ ok (g σ1) (fun p => p.2 44 20 = cod E ∧ RR p.2) := hq
    show lthn (h E σ1) k = some 1
    rw [hh E σ1 hq.1]
    exact hk _ _ _ (ok_mono hq.2 (fun p hp => ⟨hp.1, hp.2, fun c0 => absurd c0 hq.1⟩))
  | inr r =>
    have hq : ok (g σ1) (fun p => p.2 44 20 = 0 ∧ p.1 = r ∧ RR p.2) := hq
    exact hk 0 σ1 _ (ok_mono hq (fun p hp => ⟨hp.1, hp.2.2, fun _ => by rw [hp.2.1]; show vp_updL X.1 z0 r.toInt64 z0 = r.toInt64; exact pk_uLs⟩))
theorem l_boo {cod : String → Int32} {f : Option ((String ⊕ Int32) × sM)} {g : sM → Option (Int32 × sM)} {h : String → sM → Option (Int32 × (sM × sX))} {X : sX} {k : Int32 → sM → sX → Option Int32} (a : agF cod f g) (hh : ∀ E σ1, cod E ≠ 0 → h E σ1 = some (cod E, σ1, X)) (hk : ∀ c σ1 X1, ok (g σ1) (fun p => p.2 44 20 = c ∧ RR p.2 ∧ (c = 0 → X1.1 z0 = if p.1 = 0 then 0 else 1)) → k c σ1 X1 = some 1) : lthn (cthn f h (fun r σ1 => if r = 0 then some ((0 : Int32), σ1, (vp_updL X.1 ((0 : Int32)).toNatClampNeg (0 : Int64), X.2)) else some ((0 : Int32), σ1, (vp_updL X.1 ((0 : Int32)).toNatClampNeg (1 : Int64), X.2)))) k = some 1 := by
  obtain ⟨⟨o, σ1⟩, e, hq⟩ := a
  rw [e]
  cases o with
  | inl E =>
    have hq : cod E ≠ 0 ∧ ok (g σ1) (fun p => p.2 44 20 = cod E ∧ RR p.2) := hq
    show lthn (h E σ1) k = some 1
    rw [hh E σ1 hq.1]
    exact hk _ _ _ (ok_mono hq.2 (fun p hp => ⟨hp.1, hp.2, fun c0 => absurd c0 hq.1⟩))
  | inr r =>
    have hq : ok (g σ1) (fun p => p.2 44 20 = 0 ∧ p.1 = r ∧ RR p.2) := hq
    show lthn (if r = 0 then _ else _) k = some 1
    by_cases c : r = 0
    · rw [if_pos c]
      exact hk 0 σ1 _ (ok_mono hq (fun p hp => ⟨hp.1, hp.2.2, fun _ => by rw [hp.2.1, if_pos c]; show vp_updL X.1 z0 0 z0 = 0; exact pk_uLs⟩))
    · rw [if_neg c]
      exact hk 0 σ1 _ (ok_mono hq (fun p hp => ⟨hp.1, hp.2.2, fun _ => by rw [hp.2.1, if_neg c]; show vp_updL X.1 z0 1 z0 = 1; exact pk_uLs⟩))
theorem l_flo {cod : String → Int32} {f : Option ((String ⊕ UInt32) × sM)} {g : sM → Option (UInt32 × sM)} {h : String → sM → Option (Int32 × (sM × sX))} {X : sX} {k : Int32 → sM → sX → Option Int32} (a : ok f (fun q => agP cod g q ∧ ∀ r, q.1 = .inr r → Jvm.FP.Core.dIsNaN (FP.f2d r) = false)) (hh : ∀ E σ1, cod E ≠ 0 → h E σ1 = some (cod E, σ1, X)) (hk : ∀ c σ1 X1, ok (g σ1) (fun p => p.2 44 20 = c ∧ RR p.2 ∧ (c = 0 → X1.2 z0 = FP.f2d p.1 ∧ Jvm.FP.Core.dIsNaN (FP.f2d p.1) = false)) → k c σ1 X1 = some 1) : lthn (cthn f h (fun r σ1 => chk (nn64 (FP.f2d r)) (some ((0 : Int32), σ1, (X.1, vf_upd X.2 ((0 : Int32)).toNatClampNeg (FP.f2d r)))))) k = some 1 := by
  obtain ⟨⟨o, σ1⟩, e, hq, hn⟩ := a
  rw [e]
  cases o with
  | inl E =>
    have hq : cod E ≠ 0 ∧ ok (g σ1) (fun p => p.2 44 20 = cod E ∧ RR p.2) := hq
    show lthn (h E σ1) k = some 1
    rw [hh E σ1 hq.1]
    exact hk _ _ _ (ok_mono hq.2 (fun p hp => ⟨hp.1, hp.2, fun c0 => absurd c0 hq.1⟩))
  | inr r =>
    have hq : ok (g σ1) (fun p => p.2 44 20 = 0 ∧ p.1 = r ∧ RR p.2) := hq
    have hr := hn r rfl
    show lthn (chk (nn64 (FP.f2d r)) _) k = some 1
    rw [chk_true (nn64_of hr)]
    exact hk 0 σ1 _ (ok_mono hq (fun p hp => ⟨hp.1, hp.2.2, fun _ => by rw [hp.2.1]; show vf_upd X.2 z0 (FP.f2d r) z0 = FP.f2d r ∧ _; exact ⟨if_pos rfl, hr⟩⟩))
theorem l_dou {cod : String → Int32} {f : Option ((String ⊕ UInt64) × sM)} {g : sM → Option (UInt64 × sM)} {h : String → sM → Option (Int32 × (sM × sX))} {X : sX} {k : Int32 → sM → sX → Option Int32} (a : ok f (fun q => agP cod g q ∧ ∀ r, q.1 = .inr r → Jvm.FP.Core.dIsNaN r = false)) (hh : ∀ E σ1, cod E ≠ 0 → h E σ1 = some (cod E, σ1, X)) (hk : ∀ c σ1 X1, ok (g σ1) (fun p => p.2 44 20 = c ∧ RR p.2 ∧ (c = 0 → X1.2 z0 = p.1 ∧ Jvm.FP.Core.dIsNaN p.1 = false)) → k c σ1 X1 = some 1) : lthn (cthn f h (fun r σ1 => some ((0 : Int32), σ1, (X.1, vf_upd X.2 ((0 : Int32)).toNatClampNeg r)))) k = some 1 := by
  obtain ⟨⟨o, σ1⟩, e, hq, hn⟩ := a
  rw [e]
  cases o with
  | inl E =>
    have hq : cod E ≠ 0 ∧ ok (g σ1) (fun p => p.2 44 20 = cod E ∧ RR p.2) := hq
    show lthn (h E σ1) k = some 1
    rw [hh E σ1 hq.1]
    exact hk _ _ _ (ok_mono hq.2 (fun p hp => ⟨hp.1, hp.2, fun c0 => absurd c0 hq.1⟩))
  | inr r =>
    have hq : ok (g σ1) (fun p => p.2 44 20 = 0 ∧ p.1 = r ∧ RR p.2) := hq
    have hr := hn r rfl
    exact hk 0 σ1 _ (ok_mono hq (fun p hp => ⟨hp.1, hp.2.2, fun _ => by rw [hp.2.1]; show vf_upd X.2 z0 r z0 = r ∧ _; exact ⟨if_pos rfl, hr⟩⟩))
theorem w_int {g : Option (Int32 × sM)} {c : Int32} {X1 : sX} {K : sM → sX → Option Int32} (hK : ∀ σ X, RR σ → K σ X = some 1) (q : ok g (fun p => p.2 44 20 = c ∧ RR p.2 ∧ (c = 0 → X1.1 z0 = p.1.toInt64))) : wthn g (fun b σ2 => rthn (f_X5_thrown σ2) (fun t => if t = c then (if c = 0 then (if (lg_cmp (X1.1 ((0 : Int32)).toNatClampNeg) (b.toInt64)) = 0 then K σ2 X1 else some (0 : Int32)) else K σ2 X1) else some (0 : Int32))) = some 1 := by
  obtain ⟨⟨b, σ2⟩, e, h1, h2, h3⟩ := q
  rw [e]
  show (if σ2 44 20 = c then (if c = 0 then (if (lg_cmp (X1.1 z0) (b.toInt64)) = 0 then K σ2 X1 else some (0 : Int32)) else K σ2 X1) else some (0 : Int32)) = some 1
  rw [if_pos h1]
  by_cases c0 : c = 0
  · rw [if_pos c0, h3 c0, if_pos (lg_self _)]
    exact hK _ _ h2
  · rw [if_neg c0]
    exact hK _ _ h2
theorem w_boo {g : Option (Int32 × sM)} {c : Int32} {X1 : sX} {K : sM → sX → Option Int32} (hK : ∀ σ X, RR σ → K σ X = some 1) (q : ok g (fun p => p.2 44 20 = c ∧ RR p.2 ∧ (c = 0 → X1.1 z0 = if p.1 = 0 then 0 else 1))) : wthn g (fun b σ2 => rthn (f_X5_thrown σ2) (fun t => if t = c then (if c = 0 then (if b = 0 then (if (lg_cmp (X1.1 ((0 : Int32)).toNatClampNeg) (0 : Int64)) = 0 then K σ2 X1 else some (0 : Int32)) else (if (lg_cmp (X1.1 ((0 : Int32)).toNatClampNeg) (1 : Int64)) = 0 then K σ2 X1 else some (0 : Int32))) else K σ2 X1) else some (0 : Int32))) = some 1 := by
  obtain ⟨⟨b, σ2⟩, e, h1, h2, h3⟩ := q
  rw [e]
  show (if σ2 44 20 = c then (if c = 0 then (if b = 0 then (if (lg_cmp (X1.1 z0) (0 : Int64)) = 0 then K σ2 X1 else some (0 : Int32)) else (if (lg_cmp (X1.1 z0) (1 : Int64)) = 0 then K σ2 X1 else some (0 : Int32))) else K σ2 X1) else some (0 : Int32)) = some 1
  rw [if_pos h1]
  by_cases c0 : c = 0
  · rw [if_pos c0, h3 c0]
    show (if b = 0 then (if (lg_cmp (if b = 0 then 0 else 1) (0 : Int64)) = 0 then K σ2 X1 else some (0 : Int32)) else (if (lg_cmp (if b = 0 then 0 else 1) (1 : Int64)) = 0 then K σ2 X1 else some (0 : Int32))) = some 1
    by_cases b0 : b = 0
    · rw [if_pos b0, if_pos b0, if_pos (lg_self _)]
      exact hK _ _ h2
    · rw [if_neg b0, if_neg b0, if_pos (lg_self _)]
      exact hK _ _ h2
  · rw [if_neg c0]
    exact hK _ _ h2
theorem w_flo {g : Option (UInt32 × sM)} {c : Int32} {X1 : sX} {K : sM → sX → Option Int32} (hK : ∀ σ X, RR σ → K σ X = some 1) (q : ok g (fun p => p.2 44 20 = c ∧ RR p.2 ∧ (c = 0 → X1.2 z0 = FP.f2d p.1 ∧ Jvm.FP.Core.dIsNaN (FP.f2d p.1) = false))) : wthn g (fun b σ2 => rthn (f_X5_thrown σ2) (fun t => if t = c then (if c = 0 then (chk (nn64 (FP.f2d b)) (if (Op.cmpValue (FP.dcmp (X1.2 ((0 : Int32)).toNatClampNeg) (FP.f2d b)) .l) = 0 then K σ2 X1 else (if (Op.cmpValue (FP.dcmp (X1.2 ((0 : Int32)).toNatClampNeg) (X1.2 ((0 : Int32)).toNatClampNeg)) .l) = 0 then some (0 : Int32) else (if (Op.cmpValue (FP.fcmp b b) .l) = 0 then some (0 : Int32) else K σ2 X1)))) else K σ2 X1) else some (0 : Int32))) = some 1 := by
  obtain ⟨⟨b, σ2⟩, e, h1, h2, h3⟩ := q
  rw [e]
  show (if σ2 44 20 = c then (if c = 0 then (chk (nn64 (FP.f2d b)) (if (Op.cmpValue (FP.dcmp (X1.2 z0) (FP.f2d b)) .l) = 0 then K σ2 X1 else _)) else K σ2 X1) else some (0 : Int32)) = some 1
  rw [if_pos h1]
  by_cases c0 : c = 0
  · have h4 : X1.2 z0 = FP.f2d b := (h3 c0).1
    have h5 : Jvm.FP.Core.dIsNaN (FP.f2d b) = false := (h3 c0).2
    rw [if_pos c0, h4, chk_true (nn64_of h5), if_pos (dcm_self h5)]
    exact hK _ _ h2
  · rw [if_neg c0]
    exact hK _ _ h2
theorem w_dou {g : Option (UInt64 × sM)} {c : Int32} {X1 : sX} {K : sM → sX → Option Int32} (hK : ∀ σ X, RR σ → K σ X = some 1) (q : ok g (fun p => p.2 44 20 = c ∧ RR p.2 ∧ (c = 0 → X1.2 z0 = p.1 ∧ Jvm.FP.Core.dIsNaN p.1 = false))) : wthn g (fun b σ2 => rthn (f_X5_thrown σ2) (fun t => if t = c then (if c = 0 then (if (Op.cmpValue (FP.dcmp (X1.2 ((0 : Int32)).toNatClampNeg) b) .l) = 0 then K σ2 X1 else (if (Op.cmpValue (FP.dcmp (X1.2 ((0 : Int32)).toNatClampNeg) (X1.2 ((0 : Int32)).toNatClampNeg)) .l) = 0 then some (0 : Int32) else (if (Op.cmpValue (FP.dcmp b b) .l) = 0 then some (0 : Int32) else K σ2 X1))) else K σ2 X1) else some (0 : Int32))) = some 1 := by
  obtain ⟨⟨b, σ2⟩, e, h1, h2, h3⟩ := q
  rw [e]
  show (if σ2 44 20 = c then (if c = 0 then (if (Op.cmpValue (FP.dcmp (X1.2 z0) b) .l) = 0 then K σ2 X1 else _) else K σ2 X1) else some (0 : Int32)) = some 1
  rw [if_pos h1]
  by_cases c0 : c = 0
  · have h4 : X1.2 z0 = b := (h3 c0).1
    have h5 : Jvm.FP.Core.dIsNaN b = false := (h3 c0).2
    rw [if_pos c0, h4, if_pos (dcm_self h5)]
    exact hK _ _ h2
  · rw [if_neg c0]
    exact hK _ _ h2
theorem law_lt {L i : Nat} (hL : L ≤ 3584) (hi : 7 * i ≤ L) (h : ¬ (Int32.ofNat L) - (7 : Int32) < nI (7 * i)) : 7 * i + 7 ≤ L := by
  by_cases c : L < 7
  · have hi0 : i = 0 := by omega
    subst hi0
    rcases (by omega : L = 0 ∨ L = 1 ∨ L = 2 ∨ L = 3 ∨ L = 4 ∨ L = 5 ∨ L = 6) with rfl | rfl | rfl | rfl | rfl | rfl | rfl <;> exact absurd (by decide) h
  · have e : (Int32.ofNat L) - (7 : Int32) = nI (L - 7) := by
      show nI L - nI 7 = _
      rw [pk_sub (by omega)]
    rw [e, nI_ltI (by omega) (by omega)] at h
    omega
theorem in_law {L a : Nat} (k : Nat) (h : a + k < L) (hL : L ≤ 3584) : inb (nI a + nI k) L = true := by
  rw [nI_add]
  exact inb_nI h (by omega)
theorem law_loop {L : Nat} {xs : Nat → Int32} (hL : L ≤ 3584) : ∀ (n i : Nat) (σ : sM) (X : sX), RR σ → 600 ≤ n + i → 7 * i ≤ L → b_L_law_28 L xs n (nI (7 * i)) σ X = some 1 := by
  intro n
  induction n with
  | zero => intro i σ X h h1 h2; omega
  | succ n ih =>
  intro i σ X h h1 h2
  show (if (Int32.ofNat L) - (7 : Int32) < nI (7 * i) then _ else _) = some 1
  refine ite_c (fun _ => rfl) (fun hc => ?_)
  have hb := law_lt hL h2 hc
  have K : ∀ σ X, RR σ → b_L_law_28 L xs n (nI (7 * i) + 7) σ X = some 1 := by
    intro σ X hR
    have e : nI (7 * i) + 7 = nI (7 * (i + 1)) := nI_add (7 * i) 7
    rw [e]
    exact ih (i + 1) σ X hR (by omega) (by omega)
  have j0 : inb (nI (7 * i)) L = true := inb_nI (by omega) (by omega)
  have j1 : inb (nI (7 * i) + (1 : Int32)) L = true := in_law 1 (by omega) hL
  have j2 : inb (nI (7 * i) + (2 : Int32)) L = true := in_law 2 (by omega) hL
  have j3 : inb (nI (7 * i) + (3 : Int32)) L = true := in_law 3 (by omega) hL
  have j4 : inb (nI (7 * i) + (4 : Int32)) L = true := in_law 4 (by omega) hL
  have j5 : inb (nI (7 * i) + (5 : Int32)) L = true := in_law 5 (by omega) hL
  have j6 : inb (nI (7 * i) + (6 : Int32)) L = true := in_law 6 (by omega) hL
  refine ck_ j0 ?_
  rw [rthn_e]
  generalize (xs (nI (7 * i)).toNatClampNeg) &&& (63 : Int32) = vx
  refine ite_c (fun _ => ?_) (fun _ => ?_)
  · -- put
    exact ck_ j1 (ck_ j2 (ck_ j3 (l_int (a_put _ _ _ h) (fun E σ1 hE => hh2 hE) (fun c σ1 X1 q => ck_ j1 (ck_ j2 (ck_ j3 (w_int K q)))))))
  refine ite_c (fun _ => ?_) (fun _ => ?_)
  · -- value
    exact ck_ j1 (ck_ j2 (l_int (a_value _ _ h) (fun E σ1 hE => hh2 hE) (fun c σ1 X1 q => ck_ j1 (ck_ j2 (w_int K q)))))
  refine ite_c (fun _ => ?_) (fun _ => ?_)
  · -- remove
    exact ck_ j1 (ck_ j2 (l_int (a_remove _ _ h) (fun E σ1 hE => hh1 hE) (fun c σ1 X1 q => ck_ j1 (ck_ j2 (w_int K q)))))
  refine ite_c (fun _ => ?_) (fun _ => ?_)
  · -- near
    exact ck_ j1 (ck_ j2 (ck_ j3 (l_int (a_near _ _ _ h) (fun E σ1 hE => hh3 hE) (fun c σ1 X1 q => ck_ j1 (ck_ j2 (ck_ j3 (w_int K q)))))))
  refine ite_c (fun _ => ?_) (fun _ => ?_)
  · -- end
    refine ck_ j1 (ck_ j2 (ite_c (fun cx => ?_) (fun cx => ?_)))
    · exact l_int (a_end _ _ h) (fun E σ1 hE => hh2 hE) (fun c σ1 X1 q => ck_ j1 (ck_ j2 (ite_c (fun _ => w_int K q) (fun c9 => absurd cx c9))))
    · exact l_int (a_end _ _ h) (fun E σ1 hE => hh2 hE) (fun c σ1 X1 q => ck_ j1 (ck_ j2 (ite_c (fun c9 => absurd c9 cx) (fun _ => w_int K q))))
  refine ite_c (fun _ => ?_) (fun _ => ?_)
  · -- poll
    refine ck_ j1 (ck_ j2 (ite_c (fun cx => ?_) (fun cx => ?_)))
    · exact l_int (a_poll _ _ h) (fun E σ1 hE => hh2 hE) (fun c σ1 X1 q => ck_ j1 (ck_ j2 (ite_c (fun _ => w_int K q) (fun c9 => absurd cx c9))))
    · exact l_int (a_poll _ _ h) (fun E σ1 hE => hh2 hE) (fun c σ1 X1 q => ck_ j1 (ck_ j2 (ite_c (fun c9 => absurd c9 cx) (fun _ => w_int K q))))
  refine ite_c (fun _ => ?_) (fun _ => ?_)
  · -- polled
    exact l_int (a_polled h) (fun E σ1 hE => hh1 hE) (fun c σ1 X1 q => w_int K q)
  refine ite_c (fun _ => ?_) (fun _ => ?_)
  · -- drain
    refine ck_ j1 (ck_ j2 (ite_c (fun cx => ?_) (fun cx => ?_)))
    · exact l_int (a_drain _ _ h) (fun E σ1 hE => hh1 hE) (fun c σ1 X1 q => ck_ j1 (ck_ j2 (ite_c (fun _ => w_int K q) (fun c9 => absurd cx c9))))
    · exact l_int (a_drain _ _ h) (fun E σ1 hE => hh1 hE) (fun c σ1 X1 q => ck_ j1 (ck_ j2 (ite_c (fun c9 => absurd c9 cx) (fun _ => w_int K q))))
  refine ite_c (fun _ => ?_) (fun _ => ?_)
  · -- drained
    exact ck_ j1 (l_int (a_drained _ h) (fun E σ1 hE => hh1 hE) (fun c σ1 X1 q => ck_ j1 (w_int K q)))
  refine ite_c (fun _ => ?_) (fun _ => ?_)
  · -- size
    exact ck_ j1 (l_int (a_size _ h) (fun E σ1 hE => hh1 hE) (fun c σ1 X1 q => ck_ j1 (w_int K q)))
  refine ite_c (fun _ => ?_) (fun _ => ?_)
  · -- keyAt
    refine ck_ j1 (ck_ j2 (ck_ j3 (ite_c (fun cx => ?_) (fun cx => ?_))))
    · exact l_int (a_keyAt _ _ _ h) (fun E σ1 hE => hh1 hE) (fun c σ1 X1 q => ck_ j1 (ck_ j2 (ck_ j3 (ite_c (fun _ => w_int K q) (fun c9 => absurd cx c9)))))
    · exact l_int (a_keyAt _ _ _ h) (fun E σ1 hE => hh1 hE) (fun c σ1 X1 q => ck_ j1 (ck_ j2 (ck_ j3 (ite_c (fun c9 => absurd c9 cx) (fun _ => w_int K q)))))
  refine ite_c (fun _ => ?_) (fun _ => ?_)
  · -- mark
    exact ck_ j1 (l_int (a_mark _ h) (fun E σ1 hE => hh1 hE) (fun c σ1 X1 q => ck_ j1 (w_int K q)))
  refine ite_c (fun _ => ?_) (fun _ => ?_)
  · -- isLike
    exact ck_ j1 (ck_ j2 (l_boo (a_isLike _ _ h) (fun E σ1 hE => hh1 hE) (fun c σ1 X1 q => ck_ j1 (ck_ j2 (w_boo K q)))))
  refine ite_c (fun _ => ?_) (fun _ => ?_)
  · -- open
    refine ck_ j1 (ck_ j2 (ck_ j3 (ck_ j4 (?_))))
    refine ite_c (fun cx => ?_) (fun cx => ?_)
    · refine ck_ j5 (ck_ j6 (ite_c (fun cy => ?_) (fun cy => ?_)))
      · exact l_int (a_open _ _ _ _ _ _ (Or.inl rfl) (Or.inl rfl) h) (fun E σ1 hE => hh2 hE) (fun c σ1 X1 q => ck_ j1 (ck_ j2 (ck_ j3 (ck_ j4 (ite_c (fun _ => ck_ j5 (ck_ j6 (ite_c (fun _ => w_int K q) (fun c9 => absurd cy c9)))) (fun c9 => absurd cx c9))))))
      · exact l_int (a_open _ _ _ _ _ _ (Or.inl rfl) (Or.inr rfl) h) (fun E σ1 hE => hh2 hE) (fun c σ1 X1 q => ck_ j1 (ck_ j2 (ck_ j3 (ck_ j4 (ite_c (fun _ => ck_ j5 (ck_ j6 (ite_c (fun c9 => absurd c9 cy) (fun _ => w_int K q)))) (fun c9 => absurd cx c9))))))
    · refine ck_ j5 (ck_ j6 (ite_c (fun cy => ?_) (fun cy => ?_)))
      · exact l_int (a_open _ _ _ _ _ _ (Or.inr rfl) (Or.inl rfl) h) (fun E σ1 hE => hh2 hE) (fun c σ1 X1 q => ck_ j1 (ck_ j2 (ck_ j3 (ck_ j4 (ite_c (fun c9 => absurd c9 cx) (fun _ => ck_ j5 (ck_ j6 (ite_c (fun _ => w_int K q) (fun c9 => absurd cy c9)))))))))
      · exact l_int (a_open _ _ _ _ _ _ (Or.inr rfl) (Or.inr rfl) h) (fun E σ1 hE => hh2 hE) (fun c σ1 X1 q => ck_ j1 (ck_ j2 (ck_ j3 (ck_ j4 (ite_c (fun c9 => absurd c9 cx) (fun _ => ck_ j5 (ck_ j6 (ite_c (fun c9 => absurd c9 cy) (fun _ => w_int K q)))))))))
  refine ite_c (fun _ => ?_) (fun _ => ?_)
  · -- cut
    refine ck_ j1 (ck_ j2 (ck_ j3 (?_)))
    refine ite_c (fun cx => ?_) (fun cx => ?_)
    · refine ck_ j4 (ck_ j5 (ite_c (fun cy => ?_) (fun cy => ?_)))
      · exact l_int (a_cut _ _ _ _ _ (Or.inl rfl) h) (fun E σ1 hE => hh4 hE) (fun c σ1 X1 q => ck_ j1 (ck_ j2 (ck_ j3 (ite_c (fun _ => ck_ j4 (ck_ j5 (ite_c (fun _ => w_int K q) (fun c9 => absurd cy c9)))) (fun c9 => absurd cx c9)))))
      · exact l_int (a_cut _ _ _ _ _ (Or.inr rfl) h) (fun E σ1 hE => hh4 hE) (fun c σ1 X1 q => ck_ j1 (ck_ j2 (ck_ j3 (ite_c (fun _ => ck_ j4 (ck_ j5 (ite_c (fun c9 => absurd c9 cy) (fun _ => w_int K q)))) (fun c9 => absurd cx c9)))))
    · refine ck_ j4 (ck_ j5 (ite_c (fun cy => ?_) (fun cy => ?_)))
      · exact l_int (a_cut _ _ _ _ _ (Or.inl rfl) h) (fun E σ1 hE => hh4 hE) (fun c σ1 X1 q => ck_ j1 (ck_ j2 (ck_ j3 (ite_c (fun c9 => absurd c9 cx) (fun _ => ck_ j4 (ck_ j5 (ite_c (fun _ => w_int K q) (fun c9 => absurd cy c9))))))))
      · exact l_int (a_cut _ _ _ _ _ (Or.inr rfl) h) (fun E σ1 hE => hh4 hE) (fun c σ1 X1 q => ck_ j1 (ck_ j2 (ck_ j3 (ite_c (fun c9 => absurd c9 cx) (fun _ => ck_ j4 (ck_ j5 (ite_c (fun c9 => absurd c9 cy) (fun _ => w_int K q))))))))
  refine ite_c (fun _ => ?_) (fun _ => ?_)
  · -- viewPut
    exact ck_ j1 (ck_ j2 (ck_ j3 (l_int (a_viewPut _ _ _ h) (fun E σ1 hE => hh4 hE) (fun c σ1 X1 q => ck_ j1 (ck_ j2 (ck_ j3 (w_int K q)))))))
  refine ite_c (fun _ => ?_) (fun _ => ?_)
  · -- viewRemove
    exact ck_ j1 (ck_ j2 (l_boo (a_viewRemove _ _ h) (fun E σ1 hE => hh2 hE) (fun c σ1 X1 q => ck_ j1 (ck_ j2 (w_boo K q)))))
  refine ite_c (fun _ => ?_) (fun _ => ?_)
  · -- viewNear
    exact ck_ j1 (ck_ j2 (ck_ j3 (l_int (a_viewNear _ _ _ h) (fun E σ1 hE => hh3 hE) (fun c σ1 X1 q => ck_ j1 (ck_ j2 (ck_ j3 (w_int K q)))))))
  refine ite_c (fun _ => ?_) (fun _ => ?_)
  · -- viewEnd
    refine ck_ j1 (ck_ j2 (ite_c (fun cx => ?_) (fun cx => ?_)))
    · exact l_int (a_viewEnd _ _ h) (fun E σ1 hE => hh2 hE) (fun c σ1 X1 q => ck_ j1 (ck_ j2 (ite_c (fun _ => w_int K q) (fun c9 => absurd cx c9))))
    · exact l_int (a_viewEnd _ _ h) (fun E σ1 hE => hh2 hE) (fun c σ1 X1 q => ck_ j1 (ck_ j2 (ite_c (fun c9 => absurd c9 cx) (fun _ => w_int K q))))
  refine ite_c (fun _ => ?_) (fun _ => ?_)
  · -- viewPoll
    refine ck_ j1 (ck_ j2 (ite_c (fun cx => ?_) (fun cx => ?_)))
    · exact l_int (a_viewPoll _ _ h) (fun E σ1 hE => hh2 hE) (fun c σ1 X1 q => ck_ j1 (ck_ j2 (ite_c (fun _ => w_int K q) (fun c9 => absurd cx c9))))
    · exact l_int (a_viewPoll _ _ h) (fun E σ1 hE => hh2 hE) (fun c σ1 X1 q => ck_ j1 (ck_ j2 (ite_c (fun c9 => absurd c9 cx) (fun _ => w_int K q))))
  refine ite_c (fun _ => ?_) (fun _ => ?_)
  · -- viewClear
    exact ck_ j1 (l_int (a_viewClear _ h) (fun E σ1 hE => hh2 hE) (fun c σ1 X1 q => ck_ j1 (w_int K q)))
  refine ite_c (fun _ => ?_) (fun _ => ?_)
  · -- viewSize
    exact ck_ j1 (l_int (a_viewSize _ h) (fun E σ1 hE => hh1 hE) (fun c σ1 X1 q => ck_ j1 (w_int K q)))
  refine ite_c (fun _ => ?_) (fun _ => ?_)
  · -- lies
    exact ck_ j1 (ck_ j2 (l_boo (a_lies _ _ h) (fun E σ1 hE => hh2 hE) (fun c σ1 X1 q => ck_ j1 (ck_ j2 (w_boo K q)))))
  refine ite_c (fun _ => ?_) (fun _ => ?_)
  · -- step
    exact ck_ j1 (ck_ j2 (ck_ j3 (ck_ j4 (l_int (a_step _ _ _ _ h) (fun E σ1 hE => hh3 hE) (fun c σ1 X1 q => ck_ j1 (ck_ j2 (ck_ j3 (ck_ j4 (w_int K q)))))))))
  refine ite_c (fun _ => ?_) (fun _ => ?_)
  · -- forget
    exact ck_ j1 (l_int (a_forget _ h) (fun E σ1 hE => hh1 hE) (fun c σ1 X1 q => ck_ j1 (w_int K q)))
  refine ite_c (fun _ => ?_) (fun _ => ?_)
  · -- play
    exact ck_ j1 (ck_ j2 (l_int (a_play _ _ h) (fun E σ1 hE => hh2 hE) (fun c σ1 X1 q => ck_ j1 (ck_ j2 (w_int K q)))))
  refine ite_c (fun _ => ?_) (fun _ => ?_)
  · -- playBoth
    exact ck_ j1 (ck_ j2 (ck_ j3 (ck_ j4 (l_int (a_playBoth _ _ _ _ h) (fun E σ1 hE => hh2 hE) (fun c σ1 X1 q => ck_ j1 (ck_ j2 (ck_ j3 (ck_ j4 (w_int K q)))))))))
  refine ite_c (fun _ => ?_) (fun _ => ?_)
  · -- meet
    exact ck_ j1 (ck_ j2 (l_int (a_meet _ _ h) (fun E σ1 hE => hh1 hE) (fun c σ1 X1 q => ck_ j1 (ck_ j2 (w_int K q)))))
  refine ite_c (fun _ => ?_) (fun _ => ?_)
  · -- opposite
    exact ck_ j1 (ck_ j2 (ck_ j3 (l_int (a_opposite _ _ _ h) (fun E σ1 hE => hh1 hE) (fun c σ1 X1 q => ck_ j1 (ck_ j2 (ck_ j3 (w_int K q)))))))
  refine ite_c (fun _ => ?_) (fun _ => ?_)
  · -- combine
    exact ck_ j1 (ck_ j2 (ck_ j3 (l_int (a_combine _ _ _ h) (fun E σ1 hE => hh3 hE) (fun c σ1 X1 q => ck_ j1 (ck_ j2 (ck_ j3 (w_int K q)))))))
  refine ite_c (fun _ => ?_) (fun _ => ?_)
  · -- fullShare
    exact ck_ j1 (l_flo (a_fullShare _ h) (fun E σ1 hE => hh1 hE) (fun c σ1 X1 q => ck_ j1 (w_flo K q)))
  refine ite_c (fun _ => ?_) (fun _ => ?_)
  · -- meanKey
    exact ck_ j1 (l_dou (a_meanKey _ h) (fun E σ1 hE => hh2 hE) (fun c σ1 X1 q => ck_ j1 (w_dou K q)))
  refine ite_c (fun _ => ?_) (fun _ => ?_)
  · obtain ⟨c, e1, q⟩ := a_checksum h
    rw [e1, rthn_e]
    obtain ⟨⟨d, σ2⟩, e2, q1, q2⟩ := q
    have q1 : d = c := q1
    rw [e2, wthn_e, q1, if_pos (lg_self _)]
    exact K _ _ q2
  refine ite_c (fun _ => ?_) (fun _ => K _ _ h)
  · obtain ⟨⟨r, σ1⟩, e1, q1, q2⟩ := a_isSound h
    rw [e1, wthn_e]
    obtain ⟨⟨d, σ2⟩, e2, q3, q4⟩ := q2
    have q1 : r = 1 := q1
    have q3 : d = 1 := q3
    have e2 : f_X5_isSound σ1 = some (d, σ2) := e2
    rw [e2, wthn_e, q1, q3, if_pos rfl]
    exact K _ _ q4
theorem RR.zero {σ : sM} (h : ∀ k j, σ k j = 0) : RR σ := by
  refine ⟨fun _ => [], fun _ => none, fun _ => [], [], none, ⟨fun _ _ => List.Pairwise.nil, fun _ _ => trivial, Nat.zero_le _⟩, ⟨fun i _ => ⟨h _ _, Nat.zero_le _, fun j hj => absurd hj (Nat.not_lt_zero _)⟩, fun v _ => h _ _, fun u _ => ⟨h _ _, Nat.zero_le _, fun j hj => absurd hj (Nat.not_lt_zero _)⟩, ⟨h _ _, fun j hj => absurd hj (Nat.not_lt_zero _)⟩, h _ _⟩, ⟨fun i _ => ⟨h _ _, Nat.zero_le _, fun j hj => absurd hj (Nat.not_lt_zero _)⟩, fun v _ => h _ _, fun u _ => ⟨h _ _, Nat.zero_le _, fun j hj => absurd hj (Nat.not_lt_zero _)⟩, ⟨h _ _, fun j hj => absurd hj (Nat.not_lt_zero _)⟩, h _ _⟩⟩
theorem law_whole {L : Nat} {xs : Nat → Int32} (hL : L ≤ 3584) {σ : sM} (h : ∀ k j, σ k j = 0) (X : sX) : b_L_law_28 L xs 600 0 σ X = some 1 :=
  law_loop hL 600 0 σ X (RR.zero h) (by decide) (by omega)
