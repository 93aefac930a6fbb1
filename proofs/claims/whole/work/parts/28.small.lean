/-! SMALL PAIRS -/
def Jkp (σ : Sg) : Prop := σ 0 9 = σ 45 4 ∧ bz (σ 0 9) ∧ (σ 0 9 = 1 → (∃ n h, VT n h (Tq 19 σ) ∧ h ≤ 999) ∧ σ 47 = flat (Tq 19 σ))
theorem Jkp_cong {σ σ' : Sg} (e0 : σ' 0 9 = σ 0 9) (e45 : σ' 45 4 = σ 45 4) (t19 : ∀ i, 19 ≤ i → i < 28 → σ' i = σ i) (e47 : σ' 47 = σ 47) (h : Jkp σ) : Jkp σ' := by
  have t : ∀ j, j < 9 → Tq 19 σ j = Tq 19 σ' j := fun j hj => (t19 (19 + j) (by omega) (by omega)).symm
  obtain ⟨k1, k2, k3⟩ := h
  refine ⟨by rw [e0, e45]; exact k1, by rw [e0]; exact k2, ?_⟩
  rw [e0, e47]
  intro q
  obtain ⟨⟨n', h', v', h9'⟩, f'⟩ := k3 q
  exact ⟨⟨n', h', VT_cong t v', h9'⟩, by rw [f', flat_cong t]⟩
theorem Jtape_cong {σ σ' : Sg} (e1 : σ' 32 1 = σ 32 1) (e2 : σ' 45 8 = σ 45 8) (e3 : σ' 33 = σ 33) (e4 : σ' 51 = σ 51) (h : Jtape σ) : Jtape σ' := by
  unfold Jtape at h ⊢
  rw [e1, e2, e3, e4]
  exact h
theorem Jsh_cong {σ σ' : Sg} (e : ∀ i, 35 ≤ i → i < 43 → σ' i = σ i) (e2 : σ' 52 = σ 52) (e3 : σ' 53 = σ 53) (e4 : σ' 54 = σ 54) {s : Nat} (hs : s < 4) (h : Jsh σ s) : Jsh σ' s := by
  unfold Jsh at h ⊢
  rw [e (35 + 2 * s) (by omega) (by omega), e (36 + 2 * s) (by omega) (by omega), e2, e3, e4]
  exact h
/-- the squares stay -/
theorem J_other {σ σ' : Sg} (h : J σ) (e : ∀ i, 1 ≤ i → i < 28 → σ' i = σ i) (e46 : σ' 46 = σ 46) (e47 : σ' 47 = σ 47) (e48 : σ' 48 = σ 48) (k : Jkp σ') (st : ∀ k, k < 7 → σ' 44 k = σ' 49 k) (tp : Jtape σ') (sh : ∀ s, s < 4 → Jsh σ' s) : J σ' := by
  have t : ∀ o, 1 ≤ o → o + 8 < 28 → ∀ j, j < 9 → Tq o σ j = Tq o σ' j := fun o h1 ho j hj => (e (o + j) (by omega) (by omega)).symm
  obtain ⟨⟨n, hh, v, h9⟩, ⟨z1, z10, z19⟩, f, ⟨r48, r47⟩, -, -, -, -⟩ := h
  refine ⟨⟨n, hh, VT_cong (t 1 (by decide) (by decide)) v, h9⟩, ⟨ZT_cong (t 1 (by decide) (by decide)) z1, ZT_cong (t 10 (by decide) (by decide)) z10, ZT_cong (t 19 (by decide) (by decide)) z19⟩, ?_, ⟨?_, ?_⟩, k, st, tp, sh⟩
  · rw [e46, f, flat_cong (t 1 (by decide) (by decide))]
  · rw [e48]; exact r48
  · rw [e47]; exact r47
theorem J_kp {σ : Sg} (h : J σ) : Jkp σ := h.2.2.2.2.1
theorem J_st {σ : Sg} (h : J σ) : ∀ k, k < 7 → σ 44 k = σ 49 k := h.2.2.2.2.2.1
theorem J_tp {σ : Sg} (h : J σ) : Jtape σ := h.2.2.2.2.2.2.1
theorem J_sh {σ : Sg} (h : J σ) : ∀ s, s < 4 → Jsh σ s := h.2.2.2.2.2.2.2
theorem P_tear {σ : Sg} (h : J σ) : Pair mX4_tear mX5_tear [] σ := by
  obtain ⟨k1, k2, k3⟩ := J_kp h
  have c1 : Ct mX4_tear [.ref 0] σ (Ex (some (.int (σ 0 9))) (up2 σ 0 9 0)) := by
    refine Ct.of (by decide +kernel) zX4_tear (Nat.le_of_ble_eq_true rfl) (by decide) (fun X go => ?_)
    refine go.1 [] 100 _ _ _ _ ?_
    rcases k2 with k | k
    · refine br_t k ?_
      refine And.intro ⟨rfl, rfl⟩ ?_
      rw [k]
      exact And.intro rfl rfl
    · refine br_f (show ¬ σ 0 9 = 0 by rw [k]; decide) ?_
      refine And.intro ⟨rfl, rfl⟩ ?_
      rw [k]
      exact And.intro rfl rfl
  have c2 : Ct mX5_tear [.ref 45] (up2 σ 0 9 0) (Ex (some (.int (σ 0 9))) (up2 (up2 σ 0 9 0) 45 4 0)) := by
    refine Ct.of (by decide +kernel) zX5_tear (Nat.le_of_ble_eq_true rfl) (by decide) (fun X go => ?_)
    refine go.1 [] 100 _ _ _ _ ?_
    rcases k2 with k | k
    · refine br_t (show σ 45 4 = 0 by rw [← k1, k]) ?_
      refine And.intro ⟨rfl, rfl⟩ ?_
      rw [k]
      exact And.intro rfl rfl
    · refine br_f (show ¬ σ 45 4 = 0 by rw [← k1, k]; decide) ?_
      refine And.intro ⟨rfl, rfl⟩ ?_
      rw [k]
      exact And.intro rfl rfl
  refine ⟨_, _, _, c1, c2, J_other (σ := σ) h (fun i h1 h2 => ?_) rfl rfl rfl ⟨rfl, Or.inl rfl, fun q => absurd (show (0 : Int32) = 1 from q) (by decide)⟩ (by have := J_st h; exact this) (Jtape_cong (σ := σ) rfl rfl rfl rfl (J_tp h)) (fun s hs => Jsh_cong (σ := σ) (σ' := up2 (up2 σ 0 9 0) 45 4 0) (fun i h1 h2 => ?_) rfl rfl rfl hs (J_sh h s hs))⟩
  · exact (upr_out (show i ≠ 45 by omega)).trans (upr_out (show i ≠ 0 by omega))
  · exact (upr_out (show i ≠ 45 by omega)).trans (upr_out (show i ≠ 0 by omega))
theorem P_wipe {σ : Sg} (h : J σ) : Pair mX4_wipe mX5_wipe [] σ := by
  obtain ⟨m, m1, m2, m3, m4⟩ := J_tp h
  refine ⟨nI m, up2 σ 32 1 0, up2 (up2 σ 32 1 0) 45 8 0, ?_, ?_, J_other (σ := σ) h (fun i h1 h2 => ?_) rfl rfl rfl (Jkp_cong (σ := σ) rfl rfl (fun i h1 h2 => ?_) rfl (J_kp h)) (by have := J_st h; exact this) ⟨0, by decide, rfl, rfl, fun k hk => absurd hk (by omega)⟩ (fun s hs => Jsh_cong (σ := σ) (σ' := up2 (up2 σ 32 1 0) 45 8 0) (fun i h1 h2 => ?_) rfl rfl rfl hs (J_sh h s hs))⟩
  · refine Ct.of (by decide +kernel) zX4_wipe (Nat.le_of_ble_eq_true rfl) (by decide) (fun X go => ?_)
    refine go.1 [] 100 _ _ _ _ ?_
    refine And.intro ⟨rfl, rfl⟩ ?_
    exact And.intro (by rw [← m2]) rfl
  · refine Ct.of (by decide +kernel) zX5_wipe (Nat.le_of_ble_eq_true rfl) (by decide) (fun X go => ?_)
    refine go.1 [] 100 _ _ _ _ ?_
    refine And.intro ⟨rfl, rfl⟩ ?_
    exact And.intro (by rw [← m3]; rfl) rfl
  · exact (upr_out (show i ≠ 45 by omega)).trans (upr_out (show i ≠ 32 by omega))
  · exact (upr_out (show i ≠ 45 by omega)).trans (upr_out (show i ≠ 32 by omega))
  · exact (upr_out (show i ≠ 45 by omega)).trans (upr_out (show i ≠ 32 by omega))
theorem ct_image2 {σ : Sg} (hf : Zr 78 (σ 46)) (hg : Zr 78 (σ 47)) : Ct mX5_image [.ref 45] σ (Ex (some (.int 1)) (up2 (upr σ 47 (σ 46)) 45 4 1)) := by
  refine Ct.of (by decide +kernel) zX5_image (Nat.le_of_ble_eq_true rfl) (by decide) (fun X go => ?_)
  refine go.1 [2] 100 _ _ _ _ ?_
  have L : ∀ d k, k + d = 78 → X 2 [(0, .ref 45), (1, .int (nI k))] [] (upr σ 47 (mx (σ 46) (σ 47) k)) := by
    intro d
    induction d with
    | zero =>
      intro k hk
      have hk : k = 78 := by omega
      subst hk
      refine go.1 [2] 20 _ _ _ _ ?_
      refine br_t (by decide) ?_
      refine And.intro ⟨rfl, rfl⟩ ?_
      refine And.intro rfl ?_
      rw [mx_all hf hg]
    | succ d ih =>
      intro k hk
      have ihk := ih (k + 1) (by omega)
      have es : up2 (upr σ 47 (mx (σ 46) (σ 47) k)) 47 k (σ 46 k) = upr σ 47 (mx (σ 46) (σ 47) (k + 1)) := by
        show upr (upr σ 47 (mx (σ 46) (σ 47) k)) 47 (upd (upr σ 47 (mx (σ 46) (σ 47) k) 47) k _) = _
        rw [upr_in, upr_upr, mx_upd]
      rw [nI_succ, ← es] at ihk
      refine go.1 [2] 20 _ _ _ _ ?_
      refine br_f (show ¬ nI 78 ≤ nI k from nI_ge (by omega) (by omega)) ?_
      refine Exists.intro k (And.intro ⟨rfl, by omega, by omega⟩ ?_)
      refine Exists.intro k (And.intro ⟨rfl, by omega, by omega⟩ ?_)
      exact ihk
  have L0 := L 78 0 (by omega)
  rw [mx_0, upr_self] at L0
  exact L0
theorem P_image {σ : Sg} (h : J σ) : Pair mX4_image mX5_image [] σ := by
  have z1 := h.2.1.1
  have z19 := h.2.1.2.2
  have z46 := J_z46 h
  have z47 := h.2.2.2.1.2
  have f46 := J46 h
  refine ⟨1, up2 (putSq 19 (Tq 1 σ) σ) 0 9 1, up2 (upr (up2 (putSq 19 (Tq 1 σ) σ) 0 9 1) 47 (up2 (putSq 19 (Tq 1 σ) σ) 0 9 1 46)) 45 4 1, ?_, ?_, ?_⟩
  · refine Ct.of (by decide +kernel) zX4_image (Nat.le_of_ble_eq_true rfl) (by decide) (fun X go => ?_)
    refine go.1 [] 100 _ _ _ _ ?_
    refine cl (ct_become_19_1 z19 z1) ?_
    refine And.intro ⟨rfl, rfl⟩ ?_
    exact And.intro rfl rfl
  · exact ct_image2 (σ := up2 (putSq 19 (Tq 1 σ) σ) 0 9 1) z46 z47
  · generalize hX : up2 (upr (up2 (putSq 19 (Tq 1 σ) σ) 0 9 1) 47 (up2 (putSq 19 (Tq 1 σ) σ) 0 9 1 46)) 45 4 1 = X
    have e : ∀ i, i ≠ 45 → i ≠ 47 → i ≠ 0 → X i = putSq 19 (Tq 1 σ) σ i := by
      intro i h1 h2 h3
      rw [← hX]
      exact ((upr_out h1).trans (upr_out h2)).trans (upr_out h3)
    have e2 : ∀ i, i ≠ 45 → i ≠ 47 → i ≠ 0 → (i < 19 ∨ 27 < i) → X i = σ i := fun i h1 h2 h3 h4 => (e i h1 h2 h3).trans (putSq_out h4)
    have e47 : X 47 = σ 46 := by rw [← hX]; rfl
    have e09 : X 0 9 = 1 := by rw [← hX]; rfl
    have e454 : X 45 4 = 1 := by rw [← hX]; rfl
    have e458 : X 45 8 = σ 45 8 := by rw [← hX]; rfl
    have t19 : ∀ j, j < 9 → Tq 1 σ j = Tq 19 X j := fun j hj => ((e (19 + j) (by omega) (by omega) (by omega)).trans (putSq_in (by omega))).symm
    have t1 : ∀ j, j < 9 → Tq 1 σ j = Tq 1 X j := fun j hj => (e2 (1 + j) (by omega) (by omega) (by omega) (by omega)).symm
    have t10 : ∀ j, j < 9 → Tq 10 σ j = Tq 10 X j := fun j hj => (e2 (10 + j) (by omega) (by omega) (by omega) (by omega)).symm
    obtain ⟨n, hh, v, h9⟩ := h.1
    refine ⟨⟨n, hh, VT_cong t1 v, h9⟩, ⟨ZT_cong t1 z1, ZT_cong t10 h.2.1.2.1, ZT_cong t19 z1⟩, ?_, ⟨?_, ?_⟩, ⟨by rw [e09, e454], Or.inr e09, fun _ => ⟨⟨n, hh, VT_cong t19 v, h9⟩, ?_⟩⟩, ?_, Jtape_cong (σ := σ) ?_ e458 ?_ ?_ (J_tp h), fun s hs => Jsh_cong (σ := σ) (fun i h1 h2 => e2 i (by omega) (by omega) (by omega) (by omega)) ?_ ?_ ?_ hs (J_sh h s hs)⟩
    · rw [e2 46 (by decide) (by decide) (by decide) (by decide), f46, flat_cong t1]
    · rw [e2 48 (by decide) (by decide) (by decide) (by decide)]; exact h.2.2.2.1.1
    · rw [e47]; exact z46
    · rw [e47, f46, flat_cong t19]
    · rw [e2 44 (by decide) (by decide) (by decide) (by decide), e2 49 (by decide) (by decide) (by decide) (by decide)]; exact J_st h
    · rw [e2 32 (by decide) (by decide) (by decide) (by decide)]
    · exact e2 33 (by decide) (by decide) (by decide) (by decide)
    · exact e2 51 (by decide) (by decide) (by decide) (by decide)
    · exact e2 52 (by decide) (by decide) (by decide) (by decide)
    · exact e2 53 (by decide) (by decide) (by decide) (by decide)
    · exact e2 54 (by decide) (by decide) (by decide) (by decide)
theorem P_undo {σ : Sg} (h : J σ) : Pair mX4_undo mX5_undo [] σ := by
  obtain ⟨k1, k2, k3⟩ := J_kp h
  rcases k2 with k | k
  · refine Pair_fd h 3 ?_ ?_
    · refine Ct.of (by decide +kernel) zX4_undo (Nat.le_of_ble_eq_true rfl) (by decide) (fun X go => ?_)
      refine go.1 [] 100 _ _ _ _ ?_
      refine br_t k ?_
      refine cl (ct_fd (w := 3) (by decide) rfl _) ?_
      exact And.intro rfl rfl
    · refine Ct.of (by decide +kernel) zX5_undo (Nat.le_of_ble_eq_true rfl) (by decide) (fun X go => ?_)
      refine go.1 [] 100 _ _ _ _ ?_
      refine br_t (show σ 45 4 = 0 by rw [← k1, k]) ?_
      refine cl (ct_finds (w := 3) (by decide) fd3 _) ?_
      exact And.intro rfl rfl
  · obtain ⟨⟨n, hh, v, h9⟩, f47⟩ := k3 k
    have z1 := h.2.1.1
    have z19 := h.2.1.2.2
    have z46 := J_z46 h
    have z47 := h.2.2.2.1.2
    refine ⟨Tq 19 σ 0 10, putSq 1 (Tq 19 σ) σ, upr (putSq 1 (Tq 19 σ) σ) 46 (flat (Tq 19 σ)), ?_, ?_, ?_⟩
    · refine Ct.of (by decide +kernel) zX4_undo (Nat.le_of_ble_eq_true rfl) (by decide) (fun X go => ?_)
      refine go.1 [] 100 _ _ _ _ ?_
      refine br_f (show ¬ σ 0 9 = 0 by rw [k]; decide) ?_
      refine cl (ct_become_1_19 z1 z19) ?_
      exact And.intro rfl rfl
    · generalize hτ : putSq 1 (Tq 19 σ) σ = τ
      have q46 : Zr 78 (τ 46) := by rw [← hτ]; exact z46
      have q47 : Zr 78 (τ 47) := by rw [← hτ]; exact z47
      have e47 : τ 47 = flat (Tq 19 σ) := by rw [← hτ]; exact f47
      have e45 : τ 45 4 = 1 := by rw [← hτ]; exact k1.symm.trans k
      rw [← e47]
      refine Ct.of (by decide +kernel) zX5_undo (Nat.le_of_ble_eq_true rfl) (by decide) (fun X go => ?_)
      refine go.1 [16] 100 _ _ _ _ ?_
      have L : ∀ d k, k + d = 78 → X 16 [(0, .ref 45), (1, .int (nI k))] [] (upr τ 46 (mx (τ 47) (τ 46) k)) := by
        intro d
        induction d with
        | zero =>
          intro k hk
          have hk : k = 78 := by omega
          subst hk
          refine go.1 [16] 20 _ _ _ _ ?_
          refine br_t (by decide) ?_
          refine Exists.intro (0) (And.intro ⟨rfl, by omega, by omega⟩ ?_)
          rw [mx_all q47 q46]
          refine And.intro ?_ rfl
          show some (Value.int (τ 47 0)) = _
          rw [e47]
          rfl
        | succ d ih =>
          intro k hk
          have ihk := ih (k + 1) (by omega)
          have es : up2 (upr τ 46 (mx (τ 47) (τ 46) k)) 46 k (τ 47 k) = upr τ 46 (mx (τ 47) (τ 46) (k + 1)) := by
            show upr (upr τ 46 (mx (τ 47) (τ 46) k)) 46 (upd (upr τ 46 (mx (τ 47) (τ 46) k) 46) k _) = _
            rw [upr_in, upr_upr, mx_upd]
          rw [nI_succ, ← es] at ihk
          refine go.1 [16] 20 _ _ _ _ ?_
          refine br_f (show ¬ nI 78 ≤ nI k from nI_ge (by omega) (by omega)) ?_
          refine Exists.intro k (And.intro ⟨rfl, by omega, by omega⟩ ?_)
          refine Exists.intro k (And.intro ⟨rfl, by omega, by omega⟩ ?_)
          exact ihk
      have L0 := L 78 0 (by omega)
      rw [mx_0, upr_self] at L0
      refine br_f (show ¬ τ 45 4 = 0 by rw [e45]; decide) ?_
      exact L0
    · refine J_set h ⟨n, hh, v, h9⟩ z19 (fun j hj => ?_) (upr_in _ _ _) ?_ (fun i h1 h2 => ?_)
      · exact ((upr_out (show 1 + j ≠ 46 by omega)).trans (putSq_in (by omega))).symm
      · exact (upr_out (show 0 ≠ 46 by decide)).trans (putSq_out (by decide))
      · exact (upr_out h2).trans (putSq_out (by omega))
theorem VT_held {n h : Nat} {T : Sg} (v : VT n h T) {q : Nat} {x : Int32} (hx : x = -1 ∨ ∃ a, a < n ∧ x = nI a) : VT n h (upr T 8 (upd (T 8) q x)) := by
  refine ⟨v.1, v.2.1, v.2.2.1, v.2.2.2.1, v.2.2.2.2.1, v.2.2.2.2.2.1, v.2.2.2.2.2.2.1, v.2.2.2.2.2.2.2.1, fun i hi => ?_⟩
  rw [upr_in]
  by_cases e : i = q
  · subst e; rw [upd_eq]; exact hx
  · rw [upd_ne e]; exact v.2.2.2.2.2.2.2.2 i hi
theorem m1_toInt : (-1 : Int32).toInt = -1 := by decide
theorem P_hold {σ : Sg} (h : J σ) (p s : Int32) : Pair mX4_hold mX5_hold [.int p, .int s] σ := by
  have f46 := J46 h
  obtain ⟨n, hh, v, h9⟩ := h.1
  have hn8 := v.1.1
  have z1 := h.2.1.1
  have z10 := h.2.1.2.1
  have z46 := J_z46 h
  have z48 := h.2.2.2.1.1
  have hnn : σ 1 9 = nI n := v.1.2.2.1
  have hnt : (σ 1 9).toInt = n := by rw [hnn]; exact nI_toInt (by omega)
  cases hp : bI p 0 9 with
  | false =>
      refine Pair_fd h 0 ?_ ?_
      · refine Ct.of (by decide +kernel) zX4_hold (Nat.le_of_ble_eq_true rfl) (by decide) (fun X go => ?_)
        refine go.1 [] 100 _ _ _ _ ?_
        refine cl (isPo hp _) ?_
        refine br_t (by decide) ?_
        refine cl (ct_fd (w := 0) (by decide) rfl _) ?_
        exact And.intro rfl rfl
      · refine Ct.of (by decide +kernel) zX5_hold (Nat.le_of_ble_eq_true rfl) (by decide) (fun X go => ?_)
        refine go.1 [] 100 _ _ _ _ ?_
        refine cl (inM 0 9 hp _) ?_
        refine br_t (by decide) ?_
        refine cl (ct_finds (w := 0) (by decide) fd0 _) ?_
        exact And.intro rfl rfl
  | true =>
    obtain ⟨a, -, ha, rfl⟩ := bI_n hp (by decide) (by decide)
    have ha : a < 10 := by omega
    have J2 : ∀ x : Int32, (x = -1 ∨ ∃ a, a < n ∧ x = nI a) → J (up2 (up2 σ 9 a x) 46 (68 + a) x) := by
      intro x hx
      refine J_row h (r := 8) (by decide) (f := upd (σ 9) a x) ⟨n, hh, VT_held (T := Tq 1 σ) v hx, h9⟩ ⟨z1.1, z1.2.1, z1.2.2.1, Zr_upd z1.2.2.2 ha⟩ ?_
      show upd (σ 46) (68 + a) x = _
      rw [f46, flat_upd_h ha]
      rfl
    by_cases hm : s = -1
    · subst hm
      refine ⟨1, up2 σ 9 a (-1), up2 (up2 σ 9 a (-1)) 46 (68 + a) (-1), ?_, ?_, J2 _ (Or.inl rfl)⟩
      · refine Ct.of (by decide +kernel) zX4_hold (Nat.le_of_ble_eq_true rfl) (by decide) (fun X go => ?_)
        refine go.1 [] 100 _ _ _ _ ?_
        refine cl (isPo hp _) ?_
        refine br_f (by decide) ?_
        refine br_f (by decide) ?_
        refine br_t (show (-1 : Int32) < σ 1 9 from (i_lt _ _).mpr (by rw [hnt, m1_toInt]; omega)) ?_
        refine Exists.intro (a) (And.intro ⟨rfl, by omega, by omega⟩ ?_)
        exact And.intro rfl rfl
      · refine Ct.of (by decide +kernel) zX5_hold (Nat.le_of_ble_eq_true rfl) (by decide) (fun X go => ?_)
        refine go.1 [] 100 _ _ _ _ ?_
        refine cl (inM 0 9 hp _) ?_
        refine br_f (by decide) ?_
        refine br_t (by decide) ?_
        refine Exists.intro (68 + a) (And.intro ⟨show nI 68 + nI a = _ from nI_add 68 a, by omega, by omega⟩ ?_)
        exact And.intro rfl rfl
    · cases hs : bI s 0 ((n : Int) - 1) with
      | false =>
        have hs' := bI_f.mp hs
        refine Pair_fd h 0 ?_ ?_
        · refine Ct.of (by decide +kernel) zX4_hold (Nat.le_of_ble_eq_true rfl) (by decide) (fun X go => ?_)
          refine go.1 [] 100 _ _ _ _ ?_
          refine cl (isPo hp _) ?_
          refine br_f (by decide) ?_
          refine And.intro (fun (q : s < -1) => ?_) (fun (q : ¬ s < -1) => ?_)
          · refine cl (ct_fd (w := 0) (by decide) rfl _) ?_
            exact And.intro rfl rfl
          · refine br_f (show ¬ s < σ 1 9 from fun g => hm (Int32.toInt_inj.mp (by have g := (i_lt _ _).mp g; have q : ¬ s.toInt < -1 := fun z => q ((i_lt _ _).mpr (by rw [m1_toInt]; exact z)); rw [hnt] at g; rw [m1_toInt]; omega))) ?_
            refine cl (ct_fd (w := 0) (by decide) rfl _) ?_
            exact And.intro rfl rfl
        · refine Ct.of (by decide +kernel) zX5_hold (Nat.le_of_ble_eq_true rfl) (by decide) (fun X go => ?_)
          refine go.1 [] 100 _ _ _ _ ?_
          refine cl (inM 0 9 hp _) ?_
          refine br_f (by decide) ?_
          refine br_f hm ?_
          refine cl (isSM v (σ := tel σ 0) f46 hs) ?_
          refine br_t (by decide) ?_
          refine cl (ct_finds (w := 0) (by decide) fd0 _) ?_
          exact And.intro rfl rfl
      | true =>
        obtain ⟨k, hk, rfl⟩ := st_n v.1.1 hs
        refine ⟨1, up2 σ 9 a (nI k), up2 (up2 σ 9 a (nI k)) 46 (68 + a) (nI k), ?_, ?_, J2 _ (Or.inr ⟨k, hk, rfl⟩)⟩
        · refine Ct.of (by decide +kernel) zX4_hold (Nat.le_of_ble_eq_true rfl) (by decide) (fun X go => ?_)
          refine go.1 [] 100 _ _ _ _ ?_
          refine cl (isPo hp _) ?_
          refine br_f (by decide) ?_
          refine br_f (show ¬ nI k < -1 from fun q => by have q := (i_lt _ _).mp q; rw [nI_toInt (by omega), m1_toInt] at q; omega) ?_
          refine br_t (show nI k < σ 1 9 by rw [hnn]; exact nI_lt hk (by omega)) ?_
          refine Exists.intro (a) (And.intro ⟨rfl, by omega, by omega⟩ ?_)
          exact And.intro rfl rfl
        · refine Ct.of (by decide +kernel) zX5_hold (Nat.le_of_ble_eq_true rfl) (by decide) (fun X go => ?_)
          refine go.1 [] 100 _ _ _ _ ?_
          refine cl (inM 0 9 hp _) ?_
          refine br_f (by decide) ?_
          refine br_f hm ?_
          refine cl (isSM v (σ := up2 σ 9 a (nI k)) f46 hs) ?_
          refine br_f (by decide) ?_
          refine Exists.intro (68 + a) (And.intro ⟨show nI 68 + nI a = _ from nI_add 68 a, by omega, by omega⟩ ?_)
          exact And.intro rfl rfl
theorem P_swap {σ : Sg} (h : J σ) (s p : Int32) : Pair mX4_swap mX5_swap [.int s, .int p] σ := by
  have f46 := J46 h
  obtain ⟨n, hh, v, h9⟩ := h.1
  have hn8 := v.1.1
  have z1 := h.2.1.1
  have z10 := h.2.1.2.1
  have z46 := J_z46 h
  have z48 := h.2.2.2.1.1
  cases hs : bI s 0 ((n : Int) - 1) with
  | false =>
      refine Pair_fd h 0 ?_ ?_
      · refine Ct.of (by decide +kernel) zX4_swap (Nat.le_of_ble_eq_true rfl) (by decide) (fun X go => ?_)
        refine go.1 [] 100 _ _ _ _ ?_
        refine cl (isS v hs) ?_
        refine br_t (by decide) ?_
        refine cl (ct_fd (w := 0) (by decide) rfl _) ?_
        exact And.intro rfl rfl
      · refine Ct.of (by decide +kernel) zX5_swap (Nat.le_of_ble_eq_true rfl) (by decide) (fun X go => ?_)
        refine go.1 [] 100 _ _ _ _ ?_
        refine cl (isSM v (σ := tel σ 0) f46 hs) ?_
        refine br_t (by decide) ?_
        refine cl (ct_finds (w := 0) (by decide) fd0 _) ?_
        exact And.intro rfl rfl
  | true =>
    cases hp : bI p 0 ((n : Int) - 1) with
    | false =>
      refine Pair_fd h 0 ?_ ?_
      · refine Ct.of (by decide +kernel) zX4_swap (Nat.le_of_ble_eq_true rfl) (by decide) (fun X go => ?_)
        refine go.1 [] 100 _ _ _ _ ?_
        refine cl (isS v hs) ?_
        refine br_f (by decide) ?_
        refine cl (isS v hp) ?_
        refine br_t (by decide) ?_
        refine cl (ct_fd (w := 0) (by decide) rfl _) ?_
        exact And.intro rfl rfl
      · refine Ct.of (by decide +kernel) zX5_swap (Nat.le_of_ble_eq_true rfl) (by decide) (fun X go => ?_)
        refine go.1 [] 100 _ _ _ _ ?_
        refine cl (isSM v (σ := tel σ 0) f46 hs) ?_
        refine br_f (by decide) ?_
        refine cl (isSM v (σ := tel σ 0) f46 hp) ?_
        refine br_t (by decide) ?_
        refine cl (ct_finds (w := 0) (by decide) fd0 _) ?_
        exact And.intro rfl rfl
    | true =>
      obtain ⟨k, hk, ek⟩ := st_n v.1.1 hs
      obtain ⟨i, hi, ei⟩ := st_n v.1.1 hp
      have c1 := ct_exchange_1 (show k < 8 by omega) (show i < 8 by omega) ek ei (Tq 1 σ) σ
      rw [putSq_self] at c1
      have c2 := ct_swaps (show k < 8 by omega) (show i < 8 by omega) ek ei (putSq 1 (swT (Tq 1 σ) k i) σ) (Tq 1 σ)
      rw [MSe (show putSq 1 (swT (Tq 1 σ) k i) σ 46 = flat (Tq 1 σ) from f46)] at c2
      refine ⟨1, putSq 1 (swT (Tq 1 σ) k i) σ, MS (putSq 1 (swT (Tq 1 σ) k i) σ) (swT (Tq 1 σ) k i), ?_, ?_, ?_⟩
      · refine Ct.of (by decide +kernel) zX4_swap (Nat.le_of_ble_eq_true rfl) (by decide) (fun X go => ?_)
        refine go.1 [] 100 _ _ _ _ ?_
        refine cl (isS v hs) ?_
        refine br_f (by decide) ?_
        refine cl (isS v hp) ?_
        refine br_f (by decide) ?_
        refine cl (c1) ?_
        exact And.intro rfl rfl
      · refine Ct.of (by decide +kernel) zX5_swap (Nat.le_of_ble_eq_true rfl) (by decide) (fun X go => ?_)
        refine go.1 [] 100 _ _ _ _ ?_
        refine cl (isSM v (σ := putSq 1 (swT (Tq 1 σ) k i) σ) f46 hs) ?_
        refine br_f (by decide) ?_
        refine cl (isSM v (σ := putSq 1 (swT (Tq 1 σ) k i) σ) f46 hp) ?_
        refine br_f (by decide) ?_
        refine cl (c2) ?_
        exact And.intro rfl rfl
      · refine J_set h ⟨n, hh, VT_sw v hk hi, h9⟩ (ZT_sw z1 (show k < 8 by omega) (show i < 8 by omega)) (fun j hj => ?_) (upr_in _ _ _) ?_ (fun i h1 h2 => ?_)
        · exact ((upr_out (show 1 + j ≠ 46 by omega)).trans (putSq_in (by omega))).symm
        · exact (upr_out (show 0 ≠ 46 by decide)).trans (putSq_out (by decide))
        · exact (upr_out h2).trans (putSq_out (by omega))
