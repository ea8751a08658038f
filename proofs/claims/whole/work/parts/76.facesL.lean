/-! a view is opened -/
variable {σ σ' : sM} {A : Nat → LM} {V : Nat → Option VW} {H : Nat → LH} {D : List Int32} {P : Option Int32}
theorem AO.vie {v : Nat} {o : Option VW} (h : AO A V D) (ho : VO o) : AO A (ua V v o) D := by
  refine ⟨h.1, fun x hx => ?_, h.2.2⟩
  by_cases e : x = v
  · rw [e, ua_s]; exact ho
  · rw [ua_n e]; exact h.2.1 x hx
theorem CR.vie {v : Nat} {o : Option VW} (h : CR σ A V H D P) (hv : v < 4) (hV : CV σ' v o) (hf : ∀ k, k ≠ 24 + v → σ' k = σ k) : CR σ' A (ua V v o) H D P := by
  refine ⟨fun j hj => (h.1 j hj).same' (hf _ (by omega)) (hf _ (by omega)) (hf _ (by omega)), fun x hx => ?_, fun u hu => (h.2.2.1 u hu).same (hf _ (by omega)) (hf _ (by omega)) (hf _ (by omega)) (hf _ (by omega)), by rw [hf 0 (by omega), hf 5 (by omega)]; exact h.2.2.2.1, by rw [hf 0 (by omega)]; exact h.2.2.2.2⟩
  by_cases e : x = v
  · rw [e, ua_s]; exact hV
  · rw [ua_n e]; exact (h.2.1 x hx).same (hf _ (by omega))
/-- nothing of the reference changed but its view v -/
def frV (σ σ' : sM) (v : Nat) : Prop := (∀ k, k < 48 ∨ 54 < k → σ' k = σ k) ∧ ∀ k x, 48 ≤ k → k ≤ 54 → x ≠ v → σ' k x = σ k x
theorem MR.vie {v : Nat} {o : Option VW} (h : MR σ A V H D P) (hV : MV σ' v o) (hf : frV σ σ' v) : MR σ' A (ua V v o) H D P := by
  refine ⟨fun j hj => (h.1 j hj).same (hf.1 _ (by omega)) (hf.1 _ (by omega)) (hf.1 _ (by omega)), fun x hx => ?_, fun u hu => (h.2.2.1 u hu).same (hf.1 _ (by omega)) (hf.1 _ (by omega)) (hf.1 _ (by omega)) (hf.1 _ (by omega)), by rw [hf.1 44 (by omega), hf.1 60 (by omega)]; exact h.2.2.2.1, by rw [hf.1 44 (by omega)]; exact h.2.2.2.2⟩
  by_cases e : x = v
  · rw [e, ua_s]; exact hV
  · rw [ua_n e]
    exact (h.2.1 x hx).same (hf.2 48 x (by omega) (by omega) e) (hf.2 49 x (by omega) (by omega) e) (hf.2 50 x (by omega) (by omega) e) (hf.2 51 x (by omega) (by omega) e) (hf.2 52 x (by omega) (by omega) e) (hf.2 53 x (by omega) (by omega) e) (hf.2 54 x (by omega) (by omega) e)
