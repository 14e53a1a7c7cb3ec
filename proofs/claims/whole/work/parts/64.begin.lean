/-! the beginning -/
theorem RowOk.fresh {Q : Nat → Int32} (h0 : Q 0 = nI (nS Q) ∧ 1 ≤ nS Q ∧ nS Q ≤ 6) (h1 : Q 1 = nI (nT Q) ∧ nT Q ≤ 5) (h2 : Q 2 = nI (nM Q) ∧ nM Q ≤ 40) (h3 : Q 3 = 0) (h4 : Q 4 = 0) (hM : RowM Q) (hL : RowL Q) (hS : RowS Q) : RowOk Q := by
  have n3 : nC Q = 0 := by unfold nC; rw [h3]; rfl
  have n4 : nA Q = 0 := by unfold nA; rw [h4]; rfl
  refine ⟨⟨h0, h1, h2, ⟨by rw [n3, h3]; rfl, by omega⟩, ⟨by rw [n4, h4]; rfl, by omega⟩⟩, hM, hL, hS, fun c hc => by omega, fun c d hc => by omega, fun k hk => by omega, fun s i t => ?_, ?_⟩
  · unfold aZ
    rw [n4]
    show -20000 ≤ (0 : Int) ∧ (0 : Int) ≤ 20000
    omega
  · unfold RowP
    omega
theorem inv_0 : Inv σ0 := by
  have e52 : σ0.1 52 = upd (fun _ => 0) 0 1 := rfl
  have r0 : σ0.1 52 0 = 1 := rfl
  have n0 : nS (σ0.1 52) = 1 := rfl
  have n1 : nT (σ0.1 52) = 0 := rfl
  have n2 : nM (σ0.1 52) = 0 := rfl
  have n3 : nC (σ0.1 52) = 0 := rfl
  have n4 : nA (σ0.1 52) = 0 := rfl
  refine ⟨⟨Or.inl rfl, Or.inr rfl, by decide⟩, ?_, ⟨?_, ?_, ?_⟩, ⟨0, by decide, rfl, rfl, fun j hj => by omega⟩, rfl, 0, 0, by decide, by decide, rfl, rfl, rfl, fun j hj => by omega⟩
  · exact RowOk.fresh ⟨rfl, by omega, by omega⟩ ⟨rfl, by omega⟩ ⟨rfl, by omega⟩ rfl rfl (fun m hm => by omega) (fun k hk => by omega) (fun s i hs hi => by omega)
  · exact ⟨⟨rfl, rfl, rfl⟩, fun i hi => by omega, fun s i hs hi => by omega, fun m hm => by omega, fun k hk => by omega⟩
  · exact ⟨rfl, fun k hk => by omega⟩
  · exact ⟨rfl, fun c hc => by omega⟩
