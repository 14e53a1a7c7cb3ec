/-! text: the class's tokens -/
def TokC (v : Nat → Nat) (n p : Nat) (kc : Int32) (s e : Nat) : Prop :=
  (∃ s0, Bls v p s0 ∧ lim n ≤ s0 ∧ s = lim n ∧ kc = -2) ∨ (Bls v p s ∧ s < lim n ∧ isBl (v s) = false ∧ e = te v n s ∧ KC v n s kc)
theorem wk_2 : ∀ w, w < 6 → ¬ wk w = -2 ∧ wk w < 0 ∧ ¬ wk w = -3 ∧ ¬ wk w = -1 := by decide
theorem KC.ne2 {v : Nat → Nat} {n p : Nat} {kc : Int32} (h : KC v n p kc) : ¬ kc = -2 := by
  rcases h with ⟨-, e⟩ | ⟨-, ⟨-, e, -⟩ | ⟨-, h1, h2, e⟩ | ⟨-, -, e⟩⟩
  · rw [e]; split <;> decide
  · rcases e with e | ⟨w, hw, e⟩
    · rw [e]; decide
    · rw [e]; exact (wk_2 w hw).1
  · rw [e]
    have h3 := vl_b _ h1
    have h5 : (10 : Nat) ^ (te v n p - p) ≤ 10 ^ 3 := Nat.pow_le_pow_right (by decide) h2
    intro y
    have : nI (vl v p (te v n p - p)) < 0 := by rw [y]; decide
    exact nI_pos (by omega) this
  · rw [e]; decide
def TT (v : Nat → Nat) (n : Nat) (P : Nat → Nat) (c4 c5 : Nat → Int32) (i : Nat) : Prop := P i ≤ n ∧ ∃ s, c5 i = nI s ∧ TokC v n (P i) (c4 i) s (P (i + 1))
def EnvOk (v : Nat → Nat) (n : Nat) (P : Nat → Nat) (T : Nat) (c2 c4 c5 : Nat → Int32) : Prop := c2 0 = nI n ∧ c2 2 = nI T ∧ 1 ≤ T ∧ T ≤ 601 ∧ ∀ i, i < T → TT v n P c4 c5 i ∧ (c4 i = -2 ↔ i + 1 = T)
theorem c_addToken {σ : St} {c : Nat} (h : σ.1 2 2 = nI c) (hc : c < 601) (a b : Int32) : f_X6_addToken σ a b = some (upI (upI (upI σ 4 c a) 5 c b) 2 2 (nI (c + 1))) := by
  unfold f_X6_addToken
  rw [h, if_neg (show ¬ (601 : Int32) ≤ nI c from nI_ge (b := 601) hc (by omega)), wr_at c rfl hc (by decide), Option.bind_some, up_k (by decide), h, wr_at c rfl hc (by decide), Option.bind_some, nm_q, up_k (by decide), up_k (by decide), h, nI_1]
def FS (σ σ' : St) : Prop := σ'.2 = σ.2 ∧ (∀ k, k ≠ 2 → k ≠ 4 → k ≠ 5 → σ'.1 k = σ.1 k) ∧ ∀ r, r ≠ 2 → σ'.1 2 r = σ.1 2 r
theorem c_scanL {v : Nat → Nat} {n : Nat} : ∀ (d x3 q c fu : Nat) (σ : St) (P : Nat → Nat), x3 + d = 600 → d < fu → x3 ≤ q → q ≤ n → c ≤ x3 → TpC σ v n → σ.1 2 2 = nI c → (∀ i, i < c → TT v n P (σ.1 4) (σ.1 5) i ∧ ¬ σ.1 4 i = -2) → Bls v (P c) q →
    ∃ σ' P' T, f_X6_scan_b20 fu σ (nI (lim n)) (nI q) (nI x3) = some σ' ∧ FS σ σ' ∧ EnvOk v n P' T (σ'.1 2) (σ'.1 4) (σ'.1 5) ∧ P' 0 = P 0 := by
  have hlim : lim n ≤ 600 ∧ lim n ≤ n := by unfold lim; split <;> omega
  have addp : ∀ (σ : St) (c : Nat) (a b : Int32), (upI (upI (upI σ 4 c a) 5 c b) 2 2 (nI (c + 1))).1 4 = put (σ.1 4) c a ∧ (upI (upI (upI σ 4 c a) 5 c b) 2 2 (nI (c + 1))).1 5 = put (σ.1 5) c b := fun σ c a b => ⟨by rw [up_k (by decide), up_k (by decide), up_put], by rw [up_k (by decide), up_put, up_k (by decide)]⟩
  have addf : ∀ (σ : St) (c : Nat) (a b : Int32), FS σ (upI (upI (upI σ 4 c a) 5 c b) 2 2 (nI (c + 1))) := fun σ c a b => ⟨rfl, fun k h1 h2 h3 => by rw [up_k h1, up_k h3, up_k h2], fun r hr => by rw [up_j hr, up_k (by decide), up_k (by decide)]⟩
  have fin : ∀ (q c : Nat) (σ : St) (P : Nat → Nat), c ≤ 600 → lim n ≤ q → q ≤ n → TpC σ v n → σ.1 2 2 = nI c → (∀ i, i < c → TT v n P (σ.1 4) (σ.1 5) i ∧ ¬ σ.1 4 i = -2) → Bls v (P c) q → ∃ σ' P' T, ((f_X6_addToken σ (-2) (nI (lim n))).bind fun q4 => some q4) = some σ' ∧ FS σ σ' ∧ EnvOk v n P' T (σ'.1 2) (σ'.1 4) (σ'.1 5) ∧ P' 0 = P 0 := by
    intro q c σ P hc hq hqn hT h2 ht hb
    refine ⟨_, P, c + 1, ob (c_addToken h2 (by omega) _ _) rfl, addf _ _ _ _, ⟨?_, up_s, by omega, by omega, fun i hi => ?_⟩, rfl⟩
    · rw [up_j (by decide), up_k (by decide), up_k (by decide)]; exact hT.2.1
    · rw [(addp _ _ _ _).1, (addp _ _ _ _).2]
      by_cases z : i = c
      · rw [z, put_s]
        refine ⟨⟨by have := hb.1; omega, lim n, put_s, Or.inl ⟨q, hb, hq, rfl, ?_⟩⟩, ⟨fun _ => rfl, fun _ => rfl⟩⟩
        exact put_s
      · obtain ⟨⟨y1, s, y2, y3⟩, y4⟩ := ht i (by omega)
        refine ⟨⟨y1, s, by rw [put_n z]; exact y2, by rw [put_n z]; exact y3⟩, ?_⟩
        rw [put_n z]
        exact ⟨fun y => absurd y y4, fun y => by omega⟩
  intro d
  induction d with
  | zero =>
    intro x3 q c fu σ P e1 e2 e3 e4 e5 hT h2 ht hb
    obtain ⟨fu, rfl⟩ : ∃ m, fu = m + 1 := ⟨fu - 1, by omega⟩
    have hn := hT.1
    rw [f_X6_scan_b20, if_pos (show (600 : Int32) ≤ nI x3 from (nI_leI (a := 600) (by omega) (by omega)).mpr (by omega))]
    exact fin q c σ P (by omega) (by omega) e4 hT h2 ht hb
  | succ d ih =>
    intro x3 q c fu σ P e1 e2 e3 e4 e5 hT h2 ht hb
    obtain ⟨fu, rfl⟩ : ∃ m, fu = m + 1 := ⟨fu - 1, by omega⟩
    have hn := hT.1
    rw [f_X6_scan_b20, if_neg (show ¬ (600 : Int32) ≤ nI x3 from nI_ge (b := 600) (by omega) (by omega))]
    by_cases z : lim n ≤ q
    · rw [if_pos (by rw [le_nI (by omega) (by omega)]; exact z)]
      exact fin q c σ P (by omega) z e4 hT h2 ht hb
    · have hqn : q < n := by omega
      obtain ⟨b1, b2⟩ := hT.2.2 q hqn
      rw [if_neg (nI_ge (show q < lim n by omega) (by omega)), rd_at q rfl (by omega) (by decide), Option.bind_some, b2, c_bla σ b1]
      cases zb : isBl (v q) with
      | true =>
        rw [if_neg bt0, nm_q, nm_q, nI_1, nI_1]
        exact ih (x3 + 1) (q + 1) c fu σ P (by omega) (by omega) (by omega) (by omega) (by omega) hT h2 ht ⟨by have := hb.1; omega, fun j h1 h3 => by
          by_cases y : j = q
          · rw [y]; exact zb
          · exact hb.2 j h1 (by omega)⟩
      | false =>
        rw [if_pos bf0, c_behind hT hqn, Option.bind_some]
        obtain ⟨kc, k1, k2⟩ := c_kindOf hT hqn
        rw [k1, Option.bind_some, c_addToken h2 (by omega), Option.bind_some, nm_q, nI_1]
        have hte := te_b (v := v) hqn
        have hf := addf σ c kc (nI q)
        have hT' : TpC (upI (upI (upI σ 4 c kc) 5 c (nI q)) 2 2 (nI (c + 1))) v n := ⟨hn, by rw [hf.2.2 0 (by decide)]; exact hT.2.1, fun j hj => by rw [hf.2.1 3 (by decide) (by decide) (by decide)]; exact hT.2.2 j hj⟩
        obtain ⟨σ', P', T, r1, r2, r3, r4⟩ := ih (x3 + 1) (te v n q) (c + 1) fu (upI (upI (upI σ 4 c kc) 5 c (nI q)) 2 2 (nI (c + 1))) (fun i => if i = c + 1 then te v n q else P i) (by omega) (by omega) (by omega) hte.2 (by omega) hT' up_s (fun i hi => by
          rw [(addp _ _ _ _).1, (addp _ _ _ _).2]
          by_cases y : i = c
          · rw [y, put_s]
            refine ⟨⟨?_, q, put_s, ?_⟩, k2.ne2⟩
            · show (if c = c + 1 then te v n q else P c) ≤ n
              rw [if_neg (by omega)]
              have := hb.1
              omega
            · show TokC v n (if c = c + 1 then te v n q else P c) (put (σ.1 4) c kc c) q (if c + 1 = c + 1 then te v n q else P (c + 1))
              rw [if_neg (by omega), if_pos rfl, put_s]
              exact Or.inr ⟨hb, by omega, zb, rfl, k2⟩
          · obtain ⟨⟨y1, s, y2, y3⟩, y4⟩ := ht i (by omega)
            rw [put_n y]
            refine ⟨⟨?_, s, ?_, ?_⟩, y4⟩
            · show (if i = c + 1 then te v n q else P i) ≤ n
              rw [if_neg (by omega)]; exact y1
            · rw [put_n y]; exact y2
            · show TokC v n (if i = c + 1 then te v n q else P i) (put (σ.1 4) c kc i) s (if i + 1 = c + 1 then te v n q else P (i + 1))
              rw [if_neg (by omega), if_neg (by omega), put_n y]
              exact y3) (by
          show Bls v (if c + 1 = c + 1 then te v n q else P (c + 1)) (te v n q)
          rw [if_pos rfl]
          exact ⟨Nat.le_refl _, fun j h1 h3 => by omega⟩)
        refine ⟨σ', P', T, r1, ⟨r2.1.trans hf.1, fun k h1 h3 h4 => (r2.2.1 k h1 h3 h4).trans (hf.2.1 k h1 h3 h4), fun r hr => (r2.2.2 r hr).trans (hf.2.2 r hr)⟩, r3, ?_⟩
        rw [r4]
        show (if 0 = c + 1 then te v n q else P 0) = P 0
        rw [if_neg (by omega)]
theorem c_scan {σ : St} {v : Nat → Nat} {n : Nat} (hT : TpC σ v n) : ∃ σ' P T, f_X6_scan σ = some σ' ∧ FS σ σ' ∧ EnvOk v n P T (σ'.1 2) (σ'.1 4) (σ'.1 5) ∧ P 0 = 0 := by
  have hn := hT.1
  have el : (if 600 < σ.1 2 0 then (600 : Int32) else σ.1 2 0) = nI (lim n) := by
    rw [hT.2.1]
    unfold lim
    by_cases z : n ≤ 600
    · rw [if_pos z, if_neg (show ¬ (600 : Int32) < nI n from fun y => by have := (nI_ltI (a := 600) (by omega) (by omega)).mp y; omega)]
    · rw [if_neg z, if_pos (show (600 : Int32) < nI n from (nI_ltI (a := 600) (by omega) (by omega)).mpr (by omega))]
      rfl
  have hT' : TpC (upI σ 2 2 0) v n := ⟨hn, by rw [up_j (by decide)]; exact hT.2.1, fun j hj => by rw [up_k (by decide)]; exact hT.2.2 j hj⟩
  obtain ⟨σ', P, T, r1, r2, r3, r4⟩ := c_scanL (v := v) (n := n) 600 0 0 0 10000 (upI σ 2 2 0) (fun _ => 0) (by omega) (by omega) (by omega) (by omega) (by omega) hT' up_s (fun i hi => by omega) ⟨Nat.le_refl _, fun j h1 h2 => by omega⟩
  refine ⟨σ', P, T, ?_, ⟨r2.1, fun k h1 h2 h3 => by rw [r2.2.1 k h1 h2 h3, up_k h1], fun r hr => by rw [r2.2.2 r hr, up_j hr]⟩, r3, r4⟩
  unfold f_X6_scan
  rw [nm_q, el, nm_q]
  exact r1
/-- the two sides' kinds -/
def KR (n : Nat) (kc km : Int32) (L : Int64) (N : Int32) : Prop :=
  (∃ x, x ≤ 999 ∧ kc = nI x ∧ km = 3 ∧ N = nI x) ∨ (kc = -1 ∧ km = 1) ∨ (kc = -3 ∧ km = 4) ∨ ((kc = -4 ∨ ∃ w, w < 6 ∧ kc = wk w) ∧ km = 2 ∧ ∀ w, w < 6 → (kc = wk w ↔ L = cW w)) ∨ (kc = -2 ∧ km = if n ≤ 600 then 0 else 1)
theorem link {v : Nat → Nat} {n p s e : Nat} {kc : Int32} {τ : St} (hc : TokC v n p kc s e) (hm : TokM v n p τ) : τ.1 50 5 = nI s ∧ KR n kc (τ.1 50 6) (τ.2.1 50) (τ.1 50 7) ∧ (¬ kc = -2 → τ.1 50 4 = nI e) := by
  rcases hc with ⟨s0, c1, c2, c3, c4⟩ | ⟨c1, c2, c3, c4, c5⟩
  · rcases hm with ⟨s1, m1, m2, m3, m4⟩ | ⟨s1, m1, m2, m3, -⟩
    · exact ⟨by rw [c3]; exact m3, Or.inr (Or.inr (Or.inr (Or.inr ⟨c4, m4⟩))), fun y => absurd c4 y⟩
    · have := c1.2 s1 m1.1 (by omega)
      rw [m3] at this
      exact absurd this (by decide)
  · rcases hm with ⟨s1, m1, m2, m3, m4⟩ | ⟨s1, m1, m2, m3, m4, m5, m6⟩
    · have := m1.2 s c1.1 (by omega)
      rw [c3] at this
      exact absurd this (by decide)
    · obtain rfl : s = s1 := by
        rcases Nat.lt_trichotomy s s1 with y | y | y
        · have := m1.2 s c1.1 y
          rw [c3] at this
          exact absurd this (by decide)
        · exact y
        · have := c1.2 s1 m1.1 y
          rw [m3] at this
          exact absurd this (by decide)
      refine ⟨m4, ?_, fun _ => by rw [c4]; exact m5⟩
      rcases c5 with ⟨a1, a2⟩ | ⟨a1, a2⟩
      · rcases m6 with ⟨b1, b2⟩ | ⟨b1, b2⟩
        · by_cases z : v s = 59
          · rw [if_pos z] at a2 b2
            exact Or.inr (Or.inr (Or.inl ⟨a2, b2⟩))
          · rw [if_neg z] at a2 b2
            exact Or.inr (Or.inl ⟨a2, b2⟩)
        · rw [a1] at b1; exact absurd b1 (by decide)
      · rcases m6 with ⟨b1, b2⟩ | ⟨b1, b2⟩
        · rw [a1] at b1; exact absurd b1 (by decide)
        · rcases a2 with ⟨x1, x2⟩ | ⟨x1, x2, x3, x4⟩ | ⟨x1, x2, x3⟩
          · rcases b2 with ⟨y1, y2, y3⟩ | ⟨y1, -⟩ | ⟨y1, -⟩
            · refine Or.inr (Or.inr (Or.inr (Or.inl ⟨x2.1, y2, fun w hw => ?_⟩)))
              rw [x2.2 w hw, y3, cd_w hw x1]
            · exact absurd x1 y1
            · exact absurd x1 y1
          · rcases b2 with ⟨y1, -⟩ | ⟨-, -, -, y4, y5⟩ | ⟨-, y2, -⟩
            · exact absurd y1 x1
            · have h3 := vl_b _ x2
              have h5 : (10 : Nat) ^ (te v n s - s) ≤ 10 ^ 3 := Nat.pow_le_pow_right (by decide) x3
              exact Or.inl ⟨_, by omega, x4, y4, y5⟩
            · exact absurd ⟨x2, x3⟩ y2
          · rcases b2 with ⟨y1, -⟩ | ⟨-, y2, y3, -⟩ | ⟨-, -, y3⟩
            · exact absurd y1 x1
            · exact absurd ⟨y2, y3⟩ x2
            · exact Or.inr (Or.inl ⟨x3, y3⟩)
