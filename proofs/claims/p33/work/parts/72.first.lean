/-! the first states -/
section
variable {F : Nat} {σ τ : kS}
theorem σc_2_eq : σc_2 = σc_1 := by
  obtain ⟨v, h⟩ := p_told_ex (F := 50) (σ := σc_1) (by decide) 1 (by decide) (by rw [σc_1_eq]; rfl)
  exact (k_inj (σc_2_ok.symm.trans h)).2
theorem lw_c_eq : lw_c = 1 := by
  have h := congrArg (fun x : Option (Int32 × kS) => x.map (fun q => q.1)) σc_2_ok
  have e : (f_X2_toldLaws 50 σc_1).map (fun q => q.1) = some 1 := by rw [σc_1_eq]; decide +kernel
  exact Option.some.inj (h.symm.trans e)
def sC : kS := jI (jI (jI (jI (jG (jI (jA (jA (jA (jA (jA σc_0 3 0 0) 3 1 1) 3 2 1) 3 3 55) 3 4 55) 14 1) 0 0) 15 0) 16 0) 17 0) 18 1
def sM : kS := tk (jA (jA (jA (jA (jA (jA (jA (jA (jA (jA (jA (jA σm_0 2 1 0) 1 6 745) 1 7 1) 1 8 1) 1 9 2) 1 10 0) 1 11 0) 2 1 1) 3 31 1) 3 32 1) 3 33 55) 3 34 55)
theorem σc_sC : σc = sC := by rw [σc_eq, σc_2_eq, lw_c_eq, σc_1_eq]; rfl
theorem σm_sM : σm = sM := by rw [σm_eq]; unfold σm_2; rw [σm_1_eq]; rfl
def Ini (σ τ : kS) : Prop := (cPl σ ∧ mPl σ τ ∧ rAct 1 σ τ ∧ rLaw 1 1 σ τ ∧ rTab 0 σ τ) ∧ (kI σ 0 = 0 ∧ kI σ 15 = 0 ∧ kI σ 16 = 0 ∧ kI σ 17 = 0 ∧ kI σ 19 = 0 ∧ kI σ 20 = 8 ∧ kI σ 21 = 0 ∧ kI σ 22 = 0 ∧ kI σ 23 = 2 ∧ kI σ 24 = 0 ∧ kI σ 25 = 0 ∧ kI σ 26 = 0 ∧ kG σ 0 = 0) ∧ (kI τ 0 = 0 ∧ kI τ 2 = 0 ∧ kI τ 3 = 0 ∧ kI τ 4 = 0 ∧ kI τ 5 = 0) ∧ (kB τ 0 0 = 0 ∧ kB τ 0 1 = 0 ∧ kB τ 0 2 = 0 ∧ kB τ 0 3 = 0) ∧ (kA σ 3 0 = 0 ∧ kA τ 3 0 = 0)
theorem ini_pl : cPl sC ∧ mPl sC sM := by
  have h8 : kI sC 8 = 745 := by decide +kernel
  have h9 : kI sC 9 = 1 := by decide +kernel
  have h10 : kI sC 10 = 1 := by decide +kernel
  have h11 : kI sC 11 = 2 := by decide +kernel
  have h12 : kI sC 12 = 0 := by decide +kernel
  have h13 : kI sC 13 = 0 := by decide +kernel
  have h15 : kI sC 15 = 0 := by decide +kernel
  unfold cPl mPl
  rw [h8, h9, h10, h11, h12, h13, h15]
  decide +kernel
theorem ini_act : rAct 1 sC sM := by
  unfold rAct
  refine ⟨by decide, by decide +kernel, by decide +kernel, ?_, ?_⟩
  · have h : ∀ j : Fin 5, kA sM 3 j.val = kA sC 3 j.val := by decide +kernel
    intro j hj
    exact h ⟨j, by omega⟩
  · intro i hi
    have : i = 0 := by omega
    subst this
    decide +kernel
theorem ini_law : rLaw 1 1 sC sM := by
  unfold rLaw
  refine ⟨by decide +kernel, by decide, ?_⟩
  intro i hi
  have : i = 0 := by omega
  subst this
  decide +kernel
theorem ini_tab : rTab 0 sC sM := ⟨by decide +kernel, by decide +kernel, by decide, fun i hi => absurd hi (by omega)⟩
theorem ini : Ini σc σm := by
  rw [σc_sC, σm_sM]
  exact ⟨⟨ini_pl.1, ini_pl.2, ini_act, ini_law, ini_tab⟩, by decide +kernel, by decide +kernel, by decide +kernel, by decide +kernel⟩
end
