/-! the class's page: Book.readAt -/
def dlst (R : Nat → Int32) (s i t : Int32) : Nat → List Int32
  | 0 => []
  | k + 1 => dlst R s i t k ++ (if atB R s i k && dbB R t k then [sg R k] else [])
def cLs (R : Nat → Int32) (s i t : Int32) (k : Nat) : Int32 := if atB R s i k && dbB R t k then (if k % 2 = 0 then sg R k else 0) else 0
def cMs (R : Nat → Int32) (s i t : Int32) (k : Nat) : Int32 := if atB R s i k && dbB R t k then (if k % 2 = 0 then 0 else sg R k) else 0
theorem dlst_len (R : Nat → Int32) (s i t : Int32) : ∀ k, (dlst R s i t k).length ≤ k
  | 0 => Nat.le_refl _
  | k + 1 => by
    unfold dlst
    have := dlst_len R s i t k
    rw [List.length_append]
    split
    · simp; omega
    · simp; omega
/-- the page after k legs -/
def Pg (R : Nat → Int32) (s i t a0 : Int32) (σ0 : St) (k : Nat) (σ : St) : Prop :=
  Off σ0 σ ∧ σ.1 48 0 = a0 + sumF (cS R s i t) k 0 ∧ σ.1 48 1 = sumF (cLs R s i t) k 0 ∧ σ.1 48 2 = sumF (cMs R s i t) k 0 ∧ σ.1 48 3 = nI (dlst R s i t k).length ∧
  ∀ j, j < (dlst R s i t k).length → j < 10 → σ.1 49 j = (dlst R s i t k).getD j 0
theorem pg_skip {R : Nat → Int32} {s i t a0 : Int32} {σ0 σ : St} {k : Nat} (h : Pg R s i t a0 σ0 k σ) (hs : cS R s i t k = 0) (hd : (atB R s i k && dbB R t k) = false) : Pg R s i t a0 σ0 (k + 1) σ := by
  obtain ⟨h1, h2, h3, h4, h5, h6⟩ := h
  have e1 : cLs R s i t k = 0 := by unfold cLs; rw [hd]; rfl
  have e2 : cMs R s i t k = 0 := by unfold cMs; rw [hd]; rfl
  have e3 : dlst R s i t (k + 1) = dlst R s i t k := by
    show dlst R s i t k ++ _ = _
    rw [hd]
    exact List.append_nil _
  refine ⟨h1, ?_, ?_, ?_, ?_, ?_⟩
  · rw [sumF_last, Nat.zero_add, hs, Int32.add_zero]; exact h2
  · rw [sumF_last, Nat.zero_add, e1, Int32.add_zero]; exact h3
  · rw [sumF_last, Nat.zero_add, e2, Int32.add_zero]; exact h4
  · rw [e3]; exact h5
  · rw [e3]; exact h6
theorem at_c {σ : St} {g : Nat} {R : Nat → Int32} {s : Nat} {i : Int32} {k : Nat} (hc : ClsG σ g R) (hk : k < 2 * nM R) (hs : s < 100) (hit : mI R (k / 2) = i) : (σ.1 (g + 6) k = nI s) = (atB R (nI s) i k = true) := by
  apply propext
  unfold atB
  rcases hc.2.2.2.2 k hk with ⟨e0, e1, -, -⟩ | ⟨e0, e1, -, -⟩
  · rw [e1]; simp [e0, hit]
  · rw [e1]
    constructor
    · intro h; exact absurd h.symm (nI_m1 (by omega))
    · intro h; rw [e0] at h; simp at h
theorem sg_neg {R : Nat → Int32} (hM : RowM R) {k : Nat} (hk : k < 2 * nM R) : (0 ≤ sg R k) = (¬ k % 2 = 0) := by
  apply propext
  obtain ⟨-, v, h1, h2, h3⟩ := hM (k / 2) (by omega)
  unfold sg
  rw [h3]
  by_cases c : k % 2 = 0
  · rw [if_pos c]
    constructor
    · intro h
      exfalso
      have h4 : (-nI v).toInt = -(v : Int) := sb_negT (by omega)
      have h5 := Int32.le_iff_toInt_le.mp h
      rw [h4] at h5
      have h6 : (0 : Int32).toInt = 0 := by decide
      omega
    · intro h; exact absurd c h
  · rw [if_neg c]
    exact ⟨fun _ => c, fun _ => nI_pos' (by omega)⟩
theorem c_readLeg {σ : St} {g : Nat} {R : Nat → Int32} {s : Nat} {i t a0 : Int32} {σ0 : St} {k : Nat} (hg : isG g) (hM : RowM R) (hm40 : nM R ≤ 40) (hc : ClsG σ0 g R) (hk : k < 2 * nM R) (hs : s < 100) (hit : mI R (k / 2) = i) (h : Pg R (nI s) i t a0 σ0 k σ) {a2 ch : Int32} (ha : a2 = nI k) (hch : ch = sg R k) :
    ∃ σ', f_X2_readLeg σ g a2 (nI s) t ch = some σ' ∧ Pg R (nI s) i t a0 σ0 (k + 1) σ' := by
  subst ha; subst hch
  have hc1 := hc.off hg h.1
  have hat := at_c hc1 hk hs hit
  have hk8 : k < 80 := by omega
  unfold f_X2_readLeg
  rw [rd_at k rfl hk8 (by decide)]
  show ∃ σ', (if σ.1 (g + 6) k = nI s then _ else _) = some σ' ∧ _
  by_cases c1 : atB R (nI s) i k = true
  · have c1' : σ.1 (g + 6) k = nI s := by rw [hat]; exact c1
    rw [if_pos c1']
    rcases hc1.2.2.2.2 k hk with ⟨e0, e1, e2, e3⟩ | ⟨e0, e1, e2, e3⟩
    · have ho : f_X4_isOver σ g (nI k) t = some (ovB R t k) := by
        unfold f_X4_isOver ovB
        refine ob (rd_at k rfl hk8 (by decide)) ?_
        rw [e3]
        by_cases z : t < lg R k 3 <;> simp [z]
      have hct : f_X4_isToCome σ g (nI k) t = some (tcB R t k) := by
        unfold f_X4_isToCome tcB
        refine ob (rd_at k rfl hk8 (by decide)) ?_
        rw [e2]
        by_cases z : lg R k 2 ≤ t <;> simp [z]
      rw [ho]
      show ∃ σ', (if b2i (ovB R t k) = 0 then _ else _) = some σ' ∧ _
      obtain ⟨h1, h2, h3, h4, h5, h6⟩ := id h
      by_cases c2 : ovB R t k = true
      · rw [if_neg (b2i_ne c2)]
        have hd : (atB R (nI s) i k && dbB R t k) = false := by simp [dbB, c2]
        have ed : dlst R (nI s) i t (k + 1) = dlst R (nI s) i t k := by
          show dlst R (nI s) i t k ++ _ = _
          rw [hd]; exact List.append_nil _
        have ecS : cS R (nI s) i t k = sg R k := by unfold cS; rw [c1, c2]; rfl
        have e1' : cLs R (nI s) i t k = 0 := by unfold cLs; rw [hd]; rfl
        have e2' : cMs R (nI s) i t k = 0 := by unfold cMs; rw [hd]; rfl
        refine ⟨_, rfl, h1.up48, ?_, ?_, ?_, ?_, ?_⟩
        · rw [up_s, h2, sumF_last, Nat.zero_add, ecS, Int32.add_assoc]
        · rw [up_j (by decide), h3, sumF_last, Nat.zero_add, e1', Int32.add_zero]
        · rw [up_j (by decide), h4, sumF_last, Nat.zero_add, e2', Int32.add_zero]
        · rw [up_j (by decide), h5, ed]
        · rw [ed, up_k (by decide)]; exact h6
      · have c2' : ovB R t k = false := by simpa using c2
        rw [if_pos (b2i_eq c2'), hct]
        have ecS : cS R (nI s) i t k = 0 := by unfold cS; rw [c2']; simp
        show ∃ σ', (if b2i (tcB R t k) = 0 then _ else _) = some σ' ∧ _
        by_cases c3 : tcB R t k = true
        · rw [if_neg (b2i_ne c3)]
          exact ⟨σ, rfl, pg_skip h ecS (by simp [dbB, c3])⟩
        · have c3' : tcB R t k = false := by simpa using c3
          rw [if_pos (b2i_eq c3')]
          have hd : (atB R (nI s) i k && dbB R t k) = true := by simp [dbB, c1, c2', c3']
          have ed : dlst R (nI s) i t (k + 1) = dlst R (nI s) i t k ++ [sg R k] := by
            show dlst R (nI s) i t k ++ _ = _
            rw [hd]; rfl
          have hlen := dlst_len R (nI s) i t k
          -- what addDoubt leaves, from a state that holds the page with the doubt written where there is room
          have key : ∀ σ1 : St, Off σ0 σ1 → σ1.1 48 = σ.1 48 → (∀ j, j < (dlst R (nI s) i t (k + 1)).length → j < 10 → σ1.1 49 j = (dlst R (nI s) i t (k + 1)).getD j 0) → ∃ σ', f_X2_addDoubt_b19 (sg R k) σ1 = some σ' ∧ Pg R (nI s) i t a0 σ0 (k + 1) σ' := by
            intro σ1 o1 o2 o3
            unfold f_X2_addDoubt_b19
            simp only [nm]
            have hsg := sg_neg hM hk
            by_cases c4 : k % 2 = 0
            · have n0 : ¬ 0 ≤ sg R k := by rw [hsg]; exact fun z => z c4
              rw [if_neg n0]
              have e1' : cLs R (nI s) i t k = sg R k := by unfold cLs; rw [hd]; simp [c4]
              have e2' : cMs R (nI s) i t k = 0 := by unfold cMs; rw [hd]; simp [c4]
              refine ⟨_, rfl, o1.up48.up48, ?_, ?_, ?_, ?_, ?_⟩
              · rw [up_j (by decide), up_j (by decide), o2, h2, sumF_last, Nat.zero_add, ecS, Int32.add_zero]
              · rw [up_s, up_j (by decide), o2, h3, sumF_last, Nat.zero_add, e1']
              · rw [up_j (by decide), up_j (by decide), o2, h4, sumF_last, Nat.zero_add, e2', Int32.add_zero]
              · rw [up_j (by decide), up_s, o2, h5, ed, List.length_append, nI_1]; rfl
              · rw [up_k (by decide), up_k (by decide)]; exact o3
            · have n0 : 0 ≤ sg R k := by rw [hsg]; exact c4
              rw [if_pos n0]
              have e1' : cLs R (nI s) i t k = 0 := by unfold cLs; rw [hd]; simp [c4]
              have e2' : cMs R (nI s) i t k = sg R k := by unfold cMs; rw [hd]; simp [c4]
              refine ⟨_, rfl, o1.up48.up48, ?_, ?_, ?_, ?_, ?_⟩
              · rw [up_j (by decide), up_j (by decide), o2, h2, sumF_last, Nat.zero_add, ecS, Int32.add_zero]
              · rw [up_j (by decide), up_j (by decide), o2, h3, sumF_last, Nat.zero_add, e1', Int32.add_zero]
              · rw [up_s, up_j (by decide), o2, h4, sumF_last, Nat.zero_add, e2']
              · rw [up_j (by decide), up_s, o2, h5, ed, List.length_append, nI_1]; rfl
              · rw [up_k (by decide), up_k (by decide)]; exact o3
          have hget : ∀ (l : List Int32) (x : Int32) (j : Nat), j < l.length → (l ++ [x]).getD j 0 = l.getD j 0 := by
            intro l x j hj
            rw [List.getD_eq_getElem?_getD, List.getD_eq_getElem?_getD, List.getElem?_append_left hj]
          have hgetl : ∀ (l : List Int32) (x : Int32), (l ++ [x]).getD l.length 0 = x := by
            intro l x
            rw [List.getD_eq_getElem?_getD, List.getElem?_append_right (Nat.le_refl _)]
            simp
          have hadd : ∃ σ', f_X2_addDoubt σ (sg R k) = some σ' ∧ Pg R (nI s) i t a0 σ0 (k + 1) σ' := by
            unfold f_X2_addDoubt
            by_cases c5 : (dlst R (nI s) i t k).length < 10
            · rw [h5, if_neg (show ¬ (10 : Int32) ≤ nI (dlst R (nI s) i t k).length from nI_ge (b := 10) c5 (by decide)), wr_at _ rfl c5 (by decide)]
              refine key _ h1.up49 (up_k (by decide)) ?_
              intro j hj1 hj2
              rw [ed] at hj1 ⊢
              rw [List.length_append] at hj1
              by_cases c6 : j = (dlst R (nI s) i t k).length
              · subst c6
                rw [up_s, hgetl]
              · have : j < (dlst R (nI s) i t k).length := by simp at hj1; omega
                rw [up_j c6, hget _ _ _ this]
                exact h6 j this hj2
            · rw [h5, if_pos (show (10 : Int32) ≤ nI (dlst R (nI s) i t k).length from nI_le (a := 10) (Nat.le_of_not_lt c5) (by omega))]
              refine key σ h1 rfl ?_
              intro j hj1 hj2
              have : j < (dlst R (nI s) i t k).length := by omega
              rw [ed, hget _ _ _ this]
              exact h6 j this hj2
          obtain ⟨σ', q1, q2⟩ := hadd
          exact ⟨σ', by rw [q1]; rfl, q2⟩
    · exfalso
      rw [e1] at c1'
      exact nI_m1 (by omega) c1'.symm
  · have c1' : ¬ σ.1 (g + 6) k = nI s := by rw [hat]; exact c1
    rw [if_neg c1']
    have c1f : atB R (nI s) i k = false := by simpa using c1
    exact ⟨σ, rfl, pg_skip h (by unfold cS; rw [c1f]; rfl) (by rw [c1f]; rfl)⟩
theorem c_readAt {σ : St} {g : Nat} {R : Nat → Int32} (hg : isG g) (hN : RowN R) (hM : RowM R) (hc : ClsG σ g R) (hA : ClsA σ R) (s i : Nat) (hs : s < nS R) (hi : i < nT R) (t : Int32) {a3 a4 : Int32} (h3 : a3 = nI s) (h4 : a4 = nI i) :
    ∃ σ', f_X2_readAt σ g a3 a4 t = some σ' ∧ Off σ σ' ∧ σ'.1 48 0 = sureR R s i t ∧ σ'.1 48 1 = sureR R s i t - dS R (nI s) (nI i) t 0 ∧ σ'.1 48 2 = sureR R s i t + dS R (nI s) (nI i) t 1 ∧ σ'.1 48 3 = nI (dlst R (nI s) (nI i) t (2 * nM R)).length ∧
      ∀ j, j < (dlst R (nI s) (nI i) t (2 * nM R)).length → j < 10 → σ'.1 49 j = (dlst R (nI s) (nI i) t (2 * nM R)).getD j 0 := by
  subst h3; subst h4
  have hN0 := hN
  obtain ⟨⟨-, -, hs6⟩, ⟨-, hi5⟩, ⟨hm1, hm40⟩, -, -⟩ := hN
  have hst : f_X4_stockOf σ g (nI s) (nI i) = some (R (15 + 5 * s + i)) := by
    unfold f_X4_stockOf f_X4_placeOf
    refine ob (rd_at (5 * s + i) ?_ (by omega) (by decide)) ?_
    · show nI s * nI 5 + nI i = _
      simp only [pk_mul, nI_add]
      exact congrArg nI (by omega)
    · exact congrArg some (hc.2.2.1 s i hs hi)
  unfold f_X2_readAt
  rw [hst, c_sumUpTo hN0 hA]
  simp only [Option.bind_some, nm]
  generalize ha0 : R (15 + 5 * s + i) + aS R (nI s) (nI i) t = a0
  -- the loop over the moves
  have loop : ∀ (d m n : Nat) (σ1 : St), m + d = nM R → d < n → Pg R (nI s) (nI i) t a0 σ (2 * m) σ1 → ∃ σ2, f_X2_readAt_b39 g (nI s) (nI i) t n σ1 (nI m) = some (upI (upI σ2 48 1 (σ2.1 48 1 + σ2.1 48 0)) 48 2 ((upI σ2 48 1 (σ2.1 48 1 + σ2.1 48 0)).1 48 2 + (upI σ2 48 1 (σ2.1 48 1 + σ2.1 48 0)).1 48 0)) ∧ Pg R (nI s) (nI i) t a0 σ (2 * nM R) σ2 := by
    intro d
    induction d with
    | zero =>
      intro m n σ1 h1 h2 hp
      obtain ⟨n, rfl⟩ : ∃ z, n = z + 1 := ⟨n - 1, by omega⟩
      have hmm : m = nM R := by omega
      subst hmm
      have hG1 := hc.off hg hp.1
      rw [f_X2_readAt_b39, hG1.1.2.2, hm1, if_pos (Int32.le_refl _)]
      exact ⟨σ1, rfl, hp⟩
    | succ d ih =>
      intro m n σ1 h1 h2 hp
      obtain ⟨n, rfl⟩ : ∃ z, n = z + 1 := ⟨n - 1, by omega⟩
      have hG1 := hc.off hg hp.1
      have hm : m < nM R := by omega
      rw [f_X2_readAt_b39, hG1.1.2.2, hm1, if_neg (nI_ge hm (by omega)), rd_at m rfl (by omega) (by decide), (hG1.2.2.2.1 m hm).1]
      simp only [Option.bind_some, nm]
      by_cases c1 : mI R m = nI i
      · rw [if_pos c1, rd_at m rfl (by omega) (by decide), (hG1.2.2.2.1 m hm).2]
        simp only [Option.bind_some]
        have d0 : 2 * m / 2 = m := by omega
        have d1 : (2 * m + 1) / 2 = m := by omega
        have r0 : 2 * m % 2 = 0 := by omega
        have r1 : (2 * m + 1) % 2 = 1 := by omega
        obtain ⟨σ2, q1, q2⟩ := c_readLeg hg hM hm40 hc (k := 2 * m) (by omega) (by omega : s < 100) (by rw [d0]; exact c1) hp (a2 := f_X8_legOf σ1 (nI m) 0) (ch := -mS R m) (by unfold f_X8_legOf; show nI 2 * nI m + nI 0 = _; simp only [pk_mul, nI_add]; rfl) (by unfold sg; rw [if_pos r0, d0])
        obtain ⟨σ3, q3, q4⟩ := c_readLeg hg hM hm40 hc (k := 2 * m + 1) (by omega) (by omega : s < 100) (by rw [d1]; exact c1) q2 (a2 := f_X8_legOf σ2 (nI m) 1) (ch := mS R m) (by unfold f_X8_legOf; show nI 2 * nI m + nI 1 = _; simp only [pk_mul, nI_add]) (by unfold sg; rw [if_neg (by omega), d1])
        rw [q1]
        simp only [Option.bind_some]
        rw [q3]
        simp only [Option.bind_some, nI_1]
        exact ih (m + 1) n σ3 (by omega) (by omega) q4
      · rw [if_neg c1, nI_1]
        have d0 : 2 * m / 2 = m := by omega
        have d1 : (2 * m + 1) / 2 = m := by omega
        have z0 : atB R (nI s) (nI i) (2 * m) = false := by unfold atB; rw [d0]; simp [c1]
        have z1 : atB R (nI s) (nI i) (2 * m + 1) = false := by unfold atB; rw [d1]; simp [c1]
        have hp1 := pg_skip hp (by unfold cS; rw [z0]; rfl) (by rw [z0]; rfl)
        have hp2 := pg_skip hp1 (by unfold cS; rw [z1]; rfl) (by rw [z1]; rfl)
        exact ih (m + 1) n σ1 (by omega) (by omega) hp2
  obtain ⟨σ2, q1, q2⟩ := loop (nM R) 0 10000 (upI (upI (upI (upI σ 48 0 a0) 48 1 0) 48 2 0) 48 3 0) (by omega) (by omega) (by
    refine ⟨(Off.rf σ).up48.up48.up48.up48, ?_, ?_, ?_, ?_, fun j hj => absurd hj (Nat.not_lt_zero _)⟩
    · rw [up_j (by decide), up_j (by decide), up_j (by decide), up_s]
      exact (Int32.add_zero _).symm
    · rw [up_j (by decide), up_j (by decide), up_s]; rfl
    · rw [up_j (by decide), up_s]; rfl
    · rw [up_s]; rfl)
  refine ⟨_, q1, ?_⟩
  obtain ⟨p1, p2, p3, p4, p5, p6⟩ := q2
  have eS : σ2.1 48 0 = sureR R s i t := by
    rw [p2, ← ha0]
    unfold sureR lS
    rw [Int32.add_assoc, Int32.add_assoc, Int32.add_comm (aS R (nI s) (nI i) t)]
  have eL : sumF (cLs R (nI s) (nI i) t) (2 * nM R) 0 = - dS R (nI s) (nI i) t 0 := by
    unfold dS
    rw [← sumF_neg]
    refine sumF_congr _ _ (fun j _ _ => ?_)
    unfold cLs cD sg
    by_cases z : (atB R (nI s) (nI i) j && dbB R t j) = true
    · rw [if_pos z, if_pos z, if_neg (show ¬ (0 : Int32) = 2 by decide)]
      by_cases z2 : j % 2 = 0
      · rw [if_pos z2, if_pos z2, if_pos (show nI (j % 2) = 0 by rw [z2]; rfl)]
      · rw [if_neg z2, if_neg (show ¬ nI (j % 2) = 0 from nI_ne0 (by omega) (by omega))]; decide
    · rw [if_neg z, if_neg z]; decide
  have eM : sumF (cMs R (nI s) (nI i) t) (2 * nM R) 0 = dS R (nI s) (nI i) t 1 := by
    unfold dS
    refine sumF_congr _ _ (fun j _ _ => ?_)
    unfold cMs cD sg
    by_cases z : (atB R (nI s) (nI i) j && dbB R t j) = true
    · rw [if_pos z, if_pos z, if_neg (show ¬ (1 : Int32) = 2 by decide)]
      by_cases z2 : j % 2 = 0
      · rw [if_pos z2, if_neg (show ¬ nI (j % 2) = 1 by rw [z2]; decide)]
      · rw [if_neg z2, if_neg z2, if_pos (show nI (j % 2) = 1 by rw [show j % 2 = 1 by omega]; rfl)]
    · rw [if_neg z, if_neg z]
  refine ⟨p1.up48.up48, ?_, ?_, ?_, ?_, ?_⟩
  · rw [up_j (by decide), up_j (by decide)]; exact eS
  · rw [up_j (by decide), up_s, p3, eL, eS, Int32.add_comm, ← Int32.sub_eq_add_neg]
  · rw [up_s, up_j (by decide), up_j (by decide), p4, eM, eS, Int32.add_comm]
  · rw [up_j (by decide), up_j (by decide)]; exact p5
  · rw [up_k (by decide), up_k (by decide)]; exact p6
