/-! a view is opened -/
variable {σ σ' : sM} {A : Nat → LM} {V : Nat → Option VW} {H : Nat → LH} {D : List Int32} {P : Option Int32}
theorem AO.vie {v : Nat} {o : Option VW} (h : AO A V D) (ho : VO o) : AO A (ua V v o) D := by
  refine ⟨h.1, fun x hx => ?_, h.2.2⟩
  by_cases e : x = v
  · rw [e, ua_s]; exact ho
  · rw [ua_n e]; exact h.2.1 x hx
theorem CR.vie {v : Nat} {o : Option VW} (h : CR σ A V H D P) (hv : v < 4) (hV : CV σ' v o) (hf : ∀ k, k ≠ 24 + v → σ' k = σ k) : CR σ' A (ua V v o) H D P := by
  refine ⟨fun j hj => (h.1 j hj).same' (hf _ (by omega)) (hf _ (by omega)) (hf _ (by omega)), fun x hx => ?_, fun u hu => (h.2.2.1 u hu).same (hf _ (by omega)) (hf _ (by omega)) (hf _ (by omega)) (hf _ (by omega)), by rw [hf 0 (by omega), hf 5 (by omega)]; exact h.2.2.2.1, by rw [hf 0 (by omega)]; exact h.2.2.2.2⟩
  by_cases e : x = v
  · rw [e, ua_s]; exact hV
  · rw [ua_n e]; exact (h.2.1 x hx).same (hf _ (by omega))
/-- nothing of the reference changed but its view v -/
def frV (σ σ' : sM) (v : Nat) : Prop := (∀ k, k < 48 ∨ 54 < k → σ' k = σ k) ∧ ∀ k x, 48 ≤ k → k ≤ 54 → x ≠ v → σ' k x = σ k x
theorem MR.vie {v : Nat} {o : Option VW} (h : MR σ A V H D P) (hV : MV σ' v o) (hf : frV σ σ' v) : MR σ' A (ua V v o) H D P := by
  refine ⟨fun j hj => (h.1 j hj).same (hf.1 _ (by omega)) (hf.1 _ (by omega)) (hf.1 _ (by omega)), fun x hx => ?_, fun u hu => (h.2.2.1 u hu).same (hf.1 _ (by omega)) (hf.1 _ (by omega)) (hf.1 _ (by omega)) (hf.1 _ (by omega)), by rw [hf.1 44 (by omega), hf.1 60 (by omega)]; exact h.2.2.2.1, by rw [hf.1 44 (by omega)]; exact h.2.2.2.2⟩
  by_cases e : x = v
  · rw [e, ua_s]; exact hV
  · rw [ua_n e]
    exact (h.2.1 x hx).same (hf.2 48 x (by omega) (by omega) e) (hf.2 49 x (by omega) (by omega) e) (hf.2 50 x (by omega) (by omega) e) (hf.2 51 x (by omega) (by omega) e) (hf.2 52 x (by omega) (by omega) e) (hf.2 53 x (by omega) (by omega) e) (hf.2 54 x (by omega) (by omega) e)
theorem nb_01 {x : Int32} (h : x = 0 ∨ x = 1) : vp_nar .boolean x = x ∧ isb x = true := by rcases h with rfl | rfl <;> exact ⟨rfl, rfl⟩
theorem a_open (v1 v2 lo il hi ih : Int32) (hil : il = 0 ∨ il = 1) (hih : ih = 0 ∨ ih = 1) (h : RR σ) : agF (cod2 xI xA) (f_X4_open v1 v2 lo il hi ih σ) (f_X5_open v1 v2 lo il hi ih) := by
  unfold f_X4_open f_X5_open b_X5_open_30
  rcases cl4 v1 with b | ⟨v, hv, rfl⟩
  · rw [vie_no b, thn_e]
    refine agF_e (c := 1) (by decide) (by decide) ?_
    rw [mv_no b, rthn_e, if_pos rfl]
    exact m_no (by decide) h (fun _ => if_neg (by decide))
  · rcases cl3 v2 with b | ⟨i, hi3, rfl⟩
    · rw [vie_at hv, thn_r, chk_true (vb4 hv), map_no b, thn_e]
      refine agF_e (c := 1) (by decide) (by decide) ?_
      rw [mv_at hv, rthn_e, if_neg (by decide), mm_no b, rthn_e, if_pos rfl]
      exact m_no (by decide) h (fun _ => if_neg (by decide))
    · have h' := h
      obtain ⟨A, V, H, D, P, ha, hc, hm⟩ := h'
      rw [vie_at hv, thn_r, chk_true (vb4 hv), map_at hi3, thn_r, chk_true (tb3 hi3)]
      by_cases c : lo ≤ hi
      · have a1 : AO A (ua V v (some (i, (lo, (il, (hi, (ih, 0))))))) D := ha.vie ⟨hi3, hil, hih, by show 0 ≤ 12; omega⟩
        rw [if_pos c]
        unfold f_X3_becomeSpan
        refine ok_w (P1 := fun q => CR q.2 A (ua V v (some (i, (lo, (il, (hi, (ih, 0))))))) H D P ∧ ∀ k, 44 ≤ k → q.2 k = σ k) ?_ (fun _ σ1 q1 => ?_)
        · refine ok_stl (fun s1 e1 => ok_stl (fun s2 e2 => ok_stl (fun s3 e3 => ok_chk (nb_01 hil).2 (ok_stl (fun s4 e4 => ok_stl (fun s5 e5 => ok_chk (nb_01 hih).2 (ok_stl (fun s6 e6 => ok_ret ⟨hc.vie hv ?_ ?_, ?_⟩))))))))
          · show s6 (24 + v) 0 = _ ∧ s6 (24 + v) 2 = _ ∧ s6 (24 + v) 3 = _ ∧ s6 (24 + v) 4 = _ ∧ s6 (24 + v) 5 = _ ∧ s6 (24 + v) 1 = _
            rw [e6, e5, e4, e3, e2, e1]
            simp [fu_at]
            rfl
          · intro k hk
            show s6 k = σ k
            rw [e6, up_n hk, e5, up_n hk, e4, up_n hk, e3, up_n hk, e2, up_n hk, e1, up_n hk]
          · intro k hk0
            have hk : k ≠ 24 + v := by omega
            show s6 k = σ k
            rw [e6, up_n hk, e5, up_n hk, e4, up_n hk, e3, up_n hk, e2, up_n hk, e1, up_n hk]
        · dsimp only at q1
          rw [cw_count a1 q1.1 hv ua_s, rthn_e]
          refine agF_r ?_
          have m1 : MR σ1 A V H D P := hm.hi q1.2
          have m2 := m1.scr (rf_R 0 σ1)
          have hin : inb (nI v) 4 = true := inb_nI hv (by omega)
          have hcv : (nI v).toNatClampNeg = v := nI_clamp (by omega)
          rw [mv_at hv, rthn_e, if_neg (by decide), mm_at hi3, rthn_e, if_neg (by decide), if_pos c, m_ref0, wthn_e, if_pos rfl, hcv, (nb_01 hil).1, (nb_01 hih).1]
          refine ok_chk hin (ok_stl (fun s1 e1 => ok_chk hin (ok_stl (fun s2 e2 => ok_chk hin (ok_stl (fun s3 e3 => ok_chk hin (ok_stl (fun s4 e4 => ok_chk hin (ok_stl (fun s5 e5 => ok_chk hin (ok_stl (fun s6 e6 => ok_chk hin (ok_stl (fun s7 e7 => ?_))))))))))))))
          have f7 : frV (rf 0 σ1) s7 v := ⟨fun k hk => by rw [e7, up_n (by omega), e6, up_n (by omega), e5, up_n (by omega), e4, up_n (by omega), e3, up_n (by omega), e2, up_n (by omega), e1, up_n (by omega)], fun k x h1 h2 hx => by rw [e7, e6, e5, e4, e3, e2, e1]; simp [fu_at, hx]⟩
          have v7 : MV s7 v (some (i, (lo, (il, (hi, (ih, 0)))))) := by
            show s7 48 v = _ ∧ s7 49 v = _ ∧ s7 50 v = _ ∧ s7 52 v = _ ∧ s7 51 v = _ ∧ s7 53 v = _ ∧ s7 54 v = _
            rw [e7, e6, e5, e4, e3, e2, e1]
            simp [fu_at]
            exact ⟨rfl, rfl⟩
          have m3 := m2.vie v7 f7
          refine ok_r (mw_many a1 m3 hv ua_s) (ok_ret ⟨?_, rfl, ⟨A, _, H, D, P, a1, (q1.1.low (rf_R 0 σ1).low).low (fun k hk => f7.1 k (by omega)), m3⟩⟩)
          show s7 44 20 = 0
          rw [f7.1 44 (by omega)]; exact rf_20 0 σ1
      · rw [if_neg c]
        refine agF_e (c := 2) (by decide) (by decide) ?_
        rw [mv_at hv, rthn_e, if_neg (by decide), mm_at hi3, rthn_e, if_neg (by decide), if_neg c]
        exact m_no (by decide) h (fun _ => if_neg (by decide))
