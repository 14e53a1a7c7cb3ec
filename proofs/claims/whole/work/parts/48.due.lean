/-! chosen, due -/
theorem s_chosen : S_chosen Inv := by
  intro σ hI a1 a2
  obtain ⟨⟨hg, -⟩, hR, hC, -⟩ := id hI
  have k1 := r52 (σ := σ) (j := 0) (x := 0)
  have hb : Inv (upI σ 50 0 0) := hI.keep (sm0 σ 0)
  unfold f_X8_chosen f_X4_hasCouple
  rcases shelf_u hR.1 a1 with ⟨s, hs, rfl, e1, m1⟩ | ⟨e1, m1, -⟩
  · rcases item_u hR.1 a2 with ⟨i, hi, rfl, e2, m2⟩ | ⟨e2, m2, -⟩
    · rw [e1 _ _ hC.1.1.1, e2 _ _ hC.1.1.2.1, if_neg bt0, if_neg bt0, if_neg bt0]
      obtain ⟨r, σ', τ0, w1, w2, -, -⟩ := ch hg hR hC k1 (nI s) (nI i)
      have e52 : (upI σ' 50 0 0).1 52 = σ.1 52 := r52.trans (w2.1 52 (by decide) (by decide))
      obtain ⟨r', σ'', τ', v1, v2, v3, v4⟩ := ch hg hR hC e52 (nI s) (nI i)
      have er : r' = r := by
        have := v1.symm.trans w1
        injection this with this
        injection this
      subst er
      refine ⟨_, _, τ', ob w1 rfl, ?_, ((hI.keep w2.same).keep (sm0 σ' 0)).keep v4⟩
      unfold f_X9_chosen
      simp only [nm]
      refine ob (m1 _ e52) ?_
      rw [if_neg bt0]
      refine ob (m2 _ e52) ?_
      rw [if_neg bt0]
      exact ob v3 rfl
    · rw [e1 _ _ hC.1.1.1, e2 _ _ hC.1.1.2.1]
      refine ⟨_, _, upI σ 50 0 0, rfl, ?_, hb⟩
      unfold f_X9_chosen
      simp only [nm]
      rw [m1 _ k1, m2 _ k1]
      rfl
  · rw [e1 _ _ hC.1.1.1]
    refine ⟨_, _, upI σ 50 0 0, rfl, ?_, hb⟩
    unfold f_X9_chosen
    simp only [nm]
    rw [m1 _ k1]
    rfl
def vCh (τ : St) (s i : Nat) : Int32 := ((f_X9_choose τ (nI s) (nI i)).map (fun q => q.1)).getD 0
def cDue (τ : St) (n q : Nat) : Int32 := if vCh τ (q / n) (q % n) = -2 then 1 else 0
theorem due_pos {σ : St} : ∀ s i, i < nT (σ.1 52) → cDue (upI σ 50 0 0) (nT (σ.1 52)) (s * nT (σ.1 52) + i) = if vCh (upI σ 50 0 0) s i = -2 then 1 else 0 := fun s i hi => by
  unfold cDue
  rw [show (s * nT (σ.1 52) + i) / nT (σ.1 52) = s by rw [Nat.mul_comm, Nat.mul_add_div (by omega), Nat.div_eq_of_lt hi, Nat.add_zero], show (s * nT (σ.1 52) + i) % nT (σ.1 52) = i by rw [Nat.mul_comm, Nat.mul_add_mod, Nat.mod_eq_of_lt hi]]
theorem due_inner {σ : St} (hg : isG σ.2.2.1) (hR : RowOk (σ.1 52)) (hC : Cls σ σ.2.2.1 (σ.1 52)) (cl : ∀ (s i : Nat) (σ' : St), Off σ σ' → ∃ σ'', f_X8_chosenOf σ' (nI s) (nI i) = some (vCh (upI σ 50 0 0) s i, σ'') ∧ Off σ σ'') : ∀ (k4 : St → Int32 → Int32 → Option (Int32 × St)) (s d i n : Nat) (σ' : St), i + d = nT (σ.1 52) → d < n → Off σ σ' → ∃ σ'', f_X8_due_b17 k4 n σ' (sumF (cDue (upI σ 50 0 0) (nT (σ.1 52))) (s * nT (σ.1 52) + i) 0) (nI s) (nI i) = k4 σ'' (sumF (cDue (upI σ 50 0 0) (nT (σ.1 52))) (s * nT (σ.1 52) + nT (σ.1 52)) 0) (nI (s + 1)) ∧ Off σ σ'' := by
  obtain ⟨⟨hS, -, hs6⟩, ⟨hT, ht5⟩, -⟩ := id hR.1
  intro k4 s d
  induction d with
  | zero =>
    intro i n σ' h1 h2 h3
    obtain ⟨n, rfl⟩ : ∃ m, n = m + 1 := ⟨n - 1, by omega⟩
    obtain rfl : i = nT (σ.1 52) := by omega
    obtain ⟨g, c⟩ := Cls.off hg h3 hC
    refine ⟨σ', ?_, h3⟩
    rw [f_X8_due_b17, c.1.1.2.1, hT, if_pos (Int32.le_refl _)]
    simp only [nm, nI_1]
  | succ d ih =>
    intro i n σ' h1 h2 h3
    obtain ⟨n, rfl⟩ : ∃ m, n = m + 1 := ⟨n - 1, by omega⟩
    obtain ⟨g, c⟩ := Cls.off hg h3 hC
    obtain ⟨σ1, u1, u2⟩ := cl s i σ' h3
    obtain ⟨σ2, v1, v2⟩ := ih (i + 1) n σ1 (by omega) (by omega) u2
    refine ⟨σ2, ?_, v2⟩
    rw [← v1, ← Nat.add_assoc, sumF_last, Nat.zero_add, due_pos s i (by omega), f_X8_due_b17, c.1.1.2.1, hT, if_neg (nI_ge (by omega) (by omega)), u1]
    simp only [Option.bind_some, nm, nI_1]
    by_cases w : vCh (upI σ 50 0 0) s i = -2
    · rw [if_pos w, if_pos w]
    · rw [if_neg w, if_neg w, Int32.add_zero]
theorem due_outer {σ : St} (hg : isG σ.2.2.1) (hR : RowOk (σ.1 52)) (hC : Cls σ σ.2.2.1 (σ.1 52)) (cl : ∀ (s i : Nat) (σ' : St), Off σ σ' → ∃ σ'', f_X8_chosenOf σ' (nI s) (nI i) = some (vCh (upI σ 50 0 0) s i, σ'') ∧ Off σ σ'') : ∀ (d s n : Nat) (σ' : St), s + d = nS (σ.1 52) → d < n → Off σ σ' → ∃ σ'', f_X8_due_b4 n σ' (sumF (cDue (upI σ 50 0 0) (nT (σ.1 52))) (s * nT (σ.1 52)) 0) (nI s) = some (sumF (cDue (upI σ 50 0 0) (nT (σ.1 52))) (nS (σ.1 52) * nT (σ.1 52)) 0, σ'') ∧ Off σ σ'' := by
  obtain ⟨⟨hS, -, hs6⟩, ⟨hT, ht5⟩, -⟩ := id hR.1
  intro d
  induction d with
  | zero =>
    intro s n σ' h1 h2 h3
    obtain ⟨n, rfl⟩ : ∃ m, n = m + 1 := ⟨n - 1, by omega⟩
    obtain rfl : s = nS (σ.1 52) := by omega
    obtain ⟨g, c⟩ := Cls.off hg h3 hC
    refine ⟨σ', ?_, h3⟩
    rw [f_X8_due_b4, c.1.1.1, hS, if_pos (Int32.le_refl _)]
  | succ d ih =>
    intro s n σ' h1 h2 h3
    obtain ⟨n, rfl⟩ : ∃ m, n = m + 1 := ⟨n - 1, by omega⟩
    obtain ⟨g, c⟩ := Cls.off hg h3 hC
    obtain ⟨σ1, u1, u2⟩ := due_inner hg hR hC cl (fun σ x1 x2 => f_X8_due_b4 n σ x1 x2) s (nT (σ.1 52)) 0 10000 σ' (by omega) (by omega) h3
    obtain ⟨σ2, v1, v2⟩ := ih (s + 1) n σ1 (by omega) (by omega) u2
    refine ⟨σ2, ?_, v2⟩
    rw [Nat.add_zero, show nI 0 = (0 : Int32) from rfl] at u1
    rw [f_X8_due_b4, c.1.1.1, hS, if_neg (nI_ge (by omega) (by omega)), u1, ← Nat.succ_mul]
    exact v1
theorem due_modl {σ : St} (hg : isG σ.2.2.1) (hR : RowOk (σ.1 52)) (hC : Cls σ σ.2.2.1 (σ.1 52)) (md : ∀ (s i : Nat) (τ : St), τ.1 52 = σ.1 52 → ∃ τ', f_X9_choose τ (nI s) (nI i) = some (vCh (upI σ 50 0 0) s i, τ') ∧ Same τ τ') : ∀ (d q n : Nat) (τ : St), q + d = nS (σ.1 52) * nT (σ.1 52) → d < n → (τ.1 52 = σ.1 52) → ∃ τ', f_X9_due_b9 n τ (sumF (cDue (upI σ 50 0 0) (nT (σ.1 52))) q 0) (nI q) = some (sumF (cDue (upI σ 50 0 0) (nT (σ.1 52))) (nS (σ.1 52) * nT (σ.1 52)) 0, τ') ∧ Same τ τ' := by
  obtain ⟨⟨hS, -, hs6⟩, ⟨hT, ht5⟩, -⟩ := id hR.1
  have hb30 : nS (σ.1 52) * nT (σ.1 52) ≤ 6 * 5 := Nat.mul_le_mul hs6 ht5
  intro d
  induction d with
  | zero =>
    intro q n τ h1 h2 h3
    obtain ⟨n, rfl⟩ : ∃ m, n = m + 1 := ⟨n - 1, by omega⟩
    obtain rfl : q = nS (σ.1 52) * nT (σ.1 52) := by omega
    refine ⟨τ, ?_, Same.rf τ⟩
    rw [f_X9_due_b9, rd_at (i := 0) 0 rfl (by decide) (by decide), rd_at (i := 1) 1 rfl (by decide) (by decide), h3, hS, hT]
    simp only [Option.bind_some]
    rw [pk_mul, if_pos (Int32.le_refl _)]
  | succ d ih =>
    intro q n τ h1 h2 h3
    obtain ⟨n, rfl⟩ : ∃ m, n = m + 1 := ⟨n - 1, by omega⟩
    have hT0 : 0 < nT (σ.1 52) := Nat.pos_of_ne_zero (fun e => by rw [e, Nat.mul_zero] at h1; omega)
    have hz : ckZ (nI (nT (σ.1 52))) = some () := by
      unfold ckZ
      rw [if_neg (nI_ne0 (by omega) (by omega))]
    obtain ⟨τ1, u1, u2⟩ := md (q / nT (σ.1 52)) (q % nT (σ.1 52)) τ h3
    obtain ⟨τ2, v1, v2⟩ := ih (q + 1) n τ1 (by omega) (by omega) ((u2.2.1 52 (by unfold rel; omega)).trans h3)
    refine ⟨τ2, ?_, u2.trans v2⟩
    rw [← v1, sumF_last, Nat.zero_add, f_X9_due_b9, rd_at (i := 0) 0 rfl (by decide) (by decide), rd_at (i := 1) 1 rfl (by decide) (by decide), h3, hS, hT]
    simp only [Option.bind_some]
    rw [pk_mul, if_neg (nI_ge (by omega) (by omega)), hz]
    simp only [Option.bind_some]
    rw [pk_rem (by omega) hT0 (by omega), pk_div (by omega) hT0 (by omega), u1]
    simp only [Option.bind_some, nm, nI_1]
    unfold cDue
    by_cases w : vCh (upI σ 50 0 0) (q / nT (σ.1 52)) (q % nT (σ.1 52)) = -2
    · rw [if_pos w, if_pos w]
    · rw [if_neg w, if_neg w, Int32.add_zero]
theorem due_ev {τ τ' : St} {s i : Nat} {r : Int32} (h : f_X9_choose τ (nI s) (nI i) = some (r, τ')) : vCh τ s i = r := by
  unfold vCh
  rw [h, Option.map_some, Option.getD_some]
theorem due_cl {σ : St} (hg : isG σ.2.2.1) (hR : RowOk (σ.1 52)) (hC : Cls σ σ.2.2.1 (σ.1 52)) (s i : Nat) (σ' : St) (ho : Off σ σ') : ∃ σ'', f_X8_chosenOf σ' (nI s) (nI i) = some (vCh (upI σ 50 0 0) s i, σ'') ∧ Off σ σ'' := by
  obtain ⟨g, c⟩ := Cls.off hg ho hC
  obtain ⟨r, σ'', τ', w1, w2, w3, -⟩ := ch g hR c (r52 (σ := σ) (j := 0) (x := 0)) (nI s) (nI i)
  rw [due_ev w3]
  exact ⟨σ'', w1, ho.trans w2⟩
theorem pair_1 {α β : Type} {o : Option (α × β)} {a a' : α} {b b' : β} (h : o = some (a, b)) (k : o = some (a', b')) : a = a' := by
  subst h
  injection k with k
  injection k
theorem due_md {σ : St} (hg : isG σ.2.2.1) (hR : RowOk (σ.1 52)) (hC : Cls σ σ.2.2.1 (σ.1 52)) (s i : Nat) (τ : St) (h : τ.1 52 = σ.1 52) : ∃ τ', f_X9_choose τ (nI s) (nI i) = some (vCh (upI σ 50 0 0) s i, τ') ∧ Same τ τ' := by
  obtain ⟨σ1, u1, -⟩ := due_cl hg hR hC s i σ (Off.rf σ)
  obtain ⟨r, σ'', τ', w1, w2, w3, w4⟩ := ch hg hR hC h (nI s) (nI i)
  rw [← pair_1 w1 u1]
  exact ⟨τ', w3, w4⟩
theorem due_c8 {σ : St} (hg : isG σ.2.2.1) (hR : RowOk (σ.1 52)) (hC : Cls σ σ.2.2.1 (σ.1 52)) : ∃ σ1, f_X8_due σ = some (sumF (cDue (upI σ 50 0 0) (nT (σ.1 52))) (nS (σ.1 52) * nT (σ.1 52)) 0, σ1) ∧ Off σ σ1 := by
  have h6 : nS (σ.1 52) < 10000 := by have := hR.1.1.2.2; omega
  have h := due_outer hg hR hC (due_cl hg hR hC) (nS (σ.1 52)) 0 10000 σ (Nat.zero_add _) h6 (Off.rf σ)
  rw [Nat.zero_mul] at h
  unfold f_X8_due
  exact h
theorem due_m9 {σ σ1 : St} (hg : isG σ.2.2.1) (hR : RowOk (σ.1 52)) (hC : Cls σ σ.2.2.1 (σ.1 52)) (e : (upI σ1 50 0 0).1 52 = σ.1 52) : ∃ τ, f_X9_due σ1 = some (sumF (cDue (upI σ 50 0 0) (nT (σ.1 52))) (nS (σ.1 52) * nT (σ.1 52)) 0, τ) ∧ Same (upI σ1 50 0 0) τ := by
  have h6 : nS (σ.1 52) * nT (σ.1 52) < 10000 := Nat.lt_of_le_of_lt (Nat.mul_le_mul hR.1.1.2.2 hR.1.2.1.2) (by decide)
  have h := due_modl hg hR hC (due_md hg hR hC) (nS (σ.1 52) * nT (σ.1 52)) 0 10000 (upI σ1 50 0 0) (Nat.zero_add _) h6 e
  have hn : ∀ (a : St) (f : St → Option (Int32 × St)), nm a f = f a := fun _ _ => rfl
  rw [f_X9_due, hn]
  exact h
theorem s_due : S_due Inv := by
  intro σ hI
  obtain ⟨⟨hg, -⟩, hR, hC, -⟩ := id hI
  obtain ⟨σ1, u1, u2⟩ := due_c8 hg hR hC
  obtain ⟨τ, v1, v2⟩ := due_m9 hg hR hC (σ1 := σ1) (r52.trans (u2.1 52 (by decide) (by decide)))
  exact ⟨_, σ1, τ, u1, v1, ((hI.keep u2.same).keep (sm0 σ1 0)).keep v2⟩
