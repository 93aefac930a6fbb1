/-! copy -/
theorem cpy_0 (f g : Nat → Int32) (a b : Nat) : va_cpy f g a b 0 = g := by
  funext j
  exact pk_cpy_out (by omega)
theorem cpy_s (f g : Nat → Int32) (a b k : Nat) : upd (va_cpy f g a b k) (b + k) (f (a + k)) = va_cpy f g a b (k + 1) := by
  funext j
  by_cases h : j = b + k
  · rw [h, upd_eq, pk_cpy_in (by omega) (by omega)]
    congr 1
    omega
  · rw [upd_ne h]
    by_cases g' : b ≤ j ∧ j < b + k
    · rw [pk_cpy_in g'.1 (by omega), pk_cpy_in g'.1 (by omega)]
    · rw [pk_cpy_out (by omega), pk_cpy_out (by omega)]
def ptO (ls lt : Nat) (f u n : Int32) : Prop := (0 ≤ f.toInt ∧ 0 ≤ n.toInt ∧ n.toInt ≤ (ls : Int) - f.toInt) ∧ (0 ≤ u.toInt ∧ 0 ≤ n.toInt ∧ n.toInt ≤ (lt : Int) - u.toInt)
theorem ctm_copy_bad {s t ls lt : Nat} (hs : s < 4) (ht : t < 4) {σ : Sg} (b1 : ¬ σ 52 s = 0) (b2 : ¬ σ 52 t = 0) (bb : σ 52 s = σ 52 t) (l1 : ls ≤ 40) (l2 : lt ≤ 40) (e1 : σ 53 s = nI ls) (e2 : σ 53 t = nI lt) {f u n : Int32} (hp : ¬ ptO ls lt f u n) : Ct mX5_copy [.ref 45, .int (nI s), .int f, .int (nI t), .int u, .int n] σ (Ex (some (.int (fd 0))) (telM σ 0)) := by
  unfold ptO at hp
  refine Ct.of (by decide +kernel) zX5_copy (Nat.le_of_ble_eq_true rfl) (by decide) (fun X go => ?_)
  refine go.1 [111] 100 _ _ _ _ ?_
  have B : X 111 [(0, .ref 45), (1, .int (nI s)), (2, .int f), (3, .int (nI t)), (4, .int u), (5, .int n)] [] σ := by
    refine go.1 [] 40 _ _ _ _ ?_
    refine cl (ct_finds (w := 0) (by decide) fd0 _) ?_
    exact And.intro rfl rfl
  refine cl (isOM (b := true) (by rw [nI_bI (by omega)]; exact decide_eq_true (by omega)) _) ?_
  refine br_f (by decide) ?_
  refine cl (isOM (b := true) (by rw [nI_bI (by omega)]; exact decide_eq_true (by omega)) _) ?_
  refine br_f (by decide) ?_
  refine Exists.intro (s) (And.intro ⟨rfl, by omega, by omega⟩ ?_)
  refine br_f b1 ?_
  refine Exists.intro (t) (And.intro ⟨rfl, by omega, by omega⟩ ?_)
  refine br_f b2 ?_
  refine Exists.intro (s) (And.intro ⟨rfl, by omega, by omega⟩ ?_)
  refine Exists.intro (t) (And.intro ⟨rfl, by omega, by omega⟩ ?_)
  refine br_t bb ?_
  refine And.intro (fun _ => B) (fun (q1 : ¬ f < 0) => ?_)
  refine And.intro (fun _ => B) (fun (q2 : ¬ u < 0) => ?_)
  refine And.intro (fun _ => B) (fun (q3 : ¬ n < 0) => ?_)
  rw [lt0] at q1 q2 q3
  refine Exists.intro (s) (And.intro ⟨rfl, by omega, by omega⟩ ?_)
  refine And.intro (fun _ => B) (fun (q4 : ¬ σ 53 s - f < n) => ?_)
  refine Exists.intro (t) (And.intro ⟨rfl, by omega, by omega⟩ ?_)
  refine br_f (fun (q5 : n ≤ σ 53 t - u) => hp ?_) B
  rw [i_lt, e1, sub40 l1 (by omega)] at q4
  rw [i_le, e2, sub40 l2 (by omega)] at q5
  omega
theorem ctm_copy {s t ls lt a b c : Nat} (hs : s < 4) (ht : t < 4) {σ : Sg} (b1 : ¬ σ 52 s = 0) (b2 : ¬ σ 52 t = 0) (bb : σ 52 s = σ 52 t) (l1 : ls ≤ 40) (l2 : lt ≤ 40) (e1 : σ 53 s = nI ls) (e2 : σ 53 t = nI lt) (h1 : a + c ≤ ls) (h2 : b + c ≤ lt) : Ct mX5_copy [.ref 45, .int (nI s), .int (nI a), .int (nI t), .int (nI b), .int (nI c)] σ (Ex (some (.int (nI c))) (upr (upr σ 55 (va_cpy (σ 54) (σ 55) (40 * s + a) 0 c)) 54 (va_cpy (va_cpy (σ 54) (σ 55) (40 * s + a) 0 c) (σ 54) 0 (40 * t + b) c))) := by
  have ix3 : ∀ x y k : Nat, (40 : Int32) * nI x + nI y + nI k = nI (40 * x + y + k) := fun x y k => by rw [ix40, nI_add]
  have ix0 : ∀ k : Nat, nI k = nI (0 + k) := fun k => by rw [Nat.zero_add]
  refine Ct.of (by decide +kernel) zX5_copy (Nat.le_of_ble_eq_true rfl) (by decide) (fun X go => ?_)
  refine go.1 [118] 100 _ _ _ _ ?_
  generalize hσ2 : upr σ 55 (va_cpy (σ 54) (σ 55) (40 * s + a) 0 c) = τ
  have t54 : τ 54 = σ 54 := by rw [← hσ2]; rfl
  have t55 : τ 55 = va_cpy (σ 54) (σ 55) (40 * s + a) 0 c := by rw [← hσ2]; rfl
  have L2 : ∀ d k, k + d = c → X 158 [(0, .ref 45), (1, .int (nI s)), (2, .int (nI a)), (3, .int (nI t)), (4, .int (nI b)), (5, .int (nI c)), (6, .int (nI k))] [] (upr τ 54 (va_cpy (τ 55) (τ 54) 0 (40 * t + b) k)) := by
    intro d
    induction d with
    | zero =>
      intro k hk
      have hk : k = c := by omega
      subst hk
      refine go.1 [158] 40 _ _ _ _ ?_
      refine br_t (show nI k ≤ nI k from nI_le (Nat.le_refl _) (by omega)) ?_
      exact And.intro rfl (by rw [t54, t55, ← hσ2])
    | succ d ih =>
      intro k hk
      have ihk := ih (k + 1) (by omega)
      have es : up2 (upr τ 54 (va_cpy (τ 55) (τ 54) 0 (40 * t + b) k)) 54 (40 * t + b + k) (τ 55 (0 + k)) = upr τ 54 (va_cpy (τ 55) (τ 54) 0 (40 * t + b) (k + 1)) := by
        show upr (upr τ 54 (va_cpy (τ 55) (τ 54) 0 (40 * t + b) k)) 54 (upd (upr τ 54 (va_cpy (τ 55) (τ 54) 0 (40 * t + b) k) 54) _ _) = _
        rw [upr_in, upr_upr, cpy_s]
      rw [nI_succ, ← es, Nat.zero_add] at ihk
      refine go.1 [158] 40 _ _ _ _ ?_
      refine br_f (show ¬ nI c ≤ nI k from nI_ge (by omega) (by omega)) ?_
      refine Exists.intro (k) (And.intro ⟨rfl, by omega, by omega⟩ ?_)
      refine Exists.intro (40 * t + b + k) (And.intro ⟨ix3 t b k, by omega, by omega⟩ ?_)
      exact ihk
  have H2 : ∀ v, X 155 [(0, .ref 45), (1, .int (nI s)), (2, .int (nI a)), (3, .int (nI t)), (4, .int (nI b)), (5, .int (nI c)), (6, v)] [] τ := by
    intro v
    have L0 := L2 c 0 (by omega)
    rw [cpy_0, upr_self] at L0
    refine go.1 [158] 40 _ _ _ _ ?_
    exact L0
  have L1 : ∀ d k, k + d = c → X 121 [(0, .ref 45), (1, .int (nI s)), (2, .int (nI a)), (3, .int (nI t)), (4, .int (nI b)), (5, .int (nI c)), (6, .int (nI k))] [] (upr σ 55 (va_cpy (σ 54) (σ 55) (40 * s + a) 0 k)) := by
    intro d
    induction d with
    | zero =>
      intro k hk
      have hk : k = c := by omega
      subst hk
      rw [hσ2]
      refine go.1 [155] 40 _ _ _ _ ?_
      refine br_t (show nI k ≤ nI k from nI_le (Nat.le_refl _) (by omega)) ?_
      exact H2 _
    | succ d ih =>
      intro k hk
      have ihk := ih (k + 1) (by omega)
      have es : up2 (upr σ 55 (va_cpy (σ 54) (σ 55) (40 * s + a) 0 k)) 55 (0 + k) (σ 54 (40 * s + a + k)) = upr σ 55 (va_cpy (σ 54) (σ 55) (40 * s + a) 0 (k + 1)) := by
        show upr (upr σ 55 (va_cpy (σ 54) (σ 55) (40 * s + a) 0 k)) 55 (upd (upr σ 55 (va_cpy (σ 54) (σ 55) (40 * s + a) 0 k) 55) _ _) = _
        rw [upr_in, upr_upr, cpy_s]
      rw [nI_succ, ← es, Nat.zero_add] at ihk
      refine go.1 [121] 40 _ _ _ _ ?_
      refine br_f (show ¬ nI c ≤ nI k from nI_ge (by omega) (by omega)) ?_
      refine Exists.intro (40 * s + a + k) (And.intro ⟨ix3 s a k, by omega, by omega⟩ ?_)
      refine Exists.intro (k) (And.intro ⟨rfl, by omega, by omega⟩ ?_)
      exact ihk
  have H1 : X 118 [(0, .ref 45), (1, .int (nI s)), (2, .int (nI a)), (3, .int (nI t)), (4, .int (nI b)), (5, .int (nI c))] [] σ := by
    have L0 := L1 c 0 (by omega)
    rw [cpy_0, upr_self] at L0
    refine go.1 [121] 40 _ _ _ _ ?_
    exact L0
  refine cl (isOM (b := true) (by rw [nI_bI (by omega)]; exact decide_eq_true (by omega)) _) ?_
  refine br_f (by decide) ?_
  refine cl (isOM (b := true) (by rw [nI_bI (by omega)]; exact decide_eq_true (by omega)) _) ?_
  refine br_f (by decide) ?_
  refine Exists.intro (s) (And.intro ⟨rfl, by omega, by omega⟩ ?_)
  refine br_f b1 ?_
  refine Exists.intro (t) (And.intro ⟨rfl, by omega, by omega⟩ ?_)
  refine br_f b2 ?_
  refine Exists.intro (s) (And.intro ⟨rfl, by omega, by omega⟩ ?_)
  refine Exists.intro (t) (And.intro ⟨rfl, by omega, by omega⟩ ?_)
  refine br_t bb ?_
  refine br_f (nI_pos (by omega)) ?_
  refine br_f (nI_pos (by omega)) ?_
  refine br_f (nI_pos (by omega)) ?_
  refine Exists.intro (s) (And.intro ⟨rfl, by omega, by omega⟩ ?_)
  refine br_f (show ¬ σ 53 s - nI a < nI c by rw [e1, pk_sub (by omega)]; exact nI_nlt (by omega) (by omega)) ?_
  refine Exists.intro (t) (And.intro ⟨rfl, by omega, by omega⟩ ?_)
  refine br_t (show nI c ≤ σ 53 t - nI b by rw [e2, pk_sub (by omega)]; exact nI_le (by omega) (by omega)) ?_
  exact H1
theorem J_copy {σ : Sg} (h : J σ) {s t a b c ls lt : Nat} (hs : s < 4) (ht : t < 4) (l1 : ls ≤ 40) (l2 : lt ≤ 40) (h1 : a + c ≤ ls) (h2 : b + c ≤ lt) : J (upr (upr (upr σ (36 + 2 * t) (va_cpy (σ (36 + 2 * s)) (σ (36 + 2 * t)) a b c)) 55 (va_cpy (σ 54) (σ 55) (40 * s + a) 0 c)) 54 (va_cpy (va_cpy (σ 54) (σ 55) (40 * s + a) 0 c) (σ 54) 0 (40 * t + b) c)) := by
  obtain ⟨len, q1, q2, q3, q4, q5, q6⟩ := J_sh h t ht
  obtain ⟨len', p1, p2, p3, p4, p5, p6⟩ := J_sh h s hs
  refine J_sh1 h t (fun i h1 h2 h3 h4 h5 => ?_) (fun u hu q => ⟨?_, ?_⟩) (fun u hu q => ⟨?_, ?_⟩) (fun j hj => ?_) ⟨len, q1, ?_, ?_, ?_, ?_, fun i hi => ?_⟩
  · rw [upr_out h4, upr_out h5, upr_out (by omega)]
  · rw [upr_out (by omega), upr_out (by omega), upr_out (by omega)]
  · rw [upr_out (by omega), upr_out (by omega), upr_out (by omega)]
  · rw [upr_out (by omega), upr_out (by omega), upr_out (by omega)]
  · rw [upr_out (by omega), upr_out (by omega), upr_out (by omega)]
  · rw [upr_in, pk_cpy_out (by omega)]
  · rw [upr_out (by omega), upr_out (by omega), upr_out (by omega)]; exact q2
  · rw [upr_out (by omega), upr_out (by omega), upr_out (by omega)]; exact q3
  · rw [upr_out (by omega), upr_out (by omega), upr_out (by omega), upr_out (by omega), upr_out (by omega), upr_out (by omega)]; exact q4
  · rw [upr_out (by omega), upr_out (by omega), upr_out (by omega)]; exact q5
  · rw [upr_out (by omega), upr_out (by omega), upr_in, upr_in]
    by_cases g : b ≤ i ∧ i < b + c
    · rw [pk_cpy_in g.1 g.2, pk_cpy_in (by omega) (by omega), pk_cpy_in (by omega) (by omega), p6 (a + (i - b)) (by omega)]
      congr 1
      omega
    · rw [pk_cpy_out (by omega), pk_cpy_out (by omega)]
      exact q6 i hi

theorem P_copy_0_0 {σ : Sg} (h : J σ) (f u n : Int32) : Pair mX4_copy mX5_copy [.int (nI 0), .int f, .int (nI 0), .int u, .int n] σ := by
  obtain ⟨ls, l1, s2, s3, s1, sb, sn⟩ := J_sh h 0 (by decide)
  obtain ⟨lt, l2, t2, t3, t1, tb, tn⟩ := J_sh h 0 (by decide)
  have s2 : σ 35 2 = nI ls := s2
  have s1 : σ 35 1 = σ 52 0 := s1
  have t2 : σ 35 2 = nI lt := t2
  have t1 : σ 35 1 = σ 52 0 := t1
  by_cases b1 : σ 52 0 = 0
  · refine Pair_fd h 5 ?_ ?_
    · refine Ct.of (by decide +kernel) zX4_copy (Nat.le_of_ble_eq_true rfl) (by decide) (fun X go => ?_)
      refine go.1 [] 100 _ _ _ _ ?_
      refine cl (isSh (b := true) rfl _) ?_
      refine br_f (by decide) ?_
      refine cl (isSh (b := true) rfl _) ?_
      refine br_f (by decide) ?_
      refine Exists.intro (0) (And.intro ⟨rfl, by decide, by omega⟩ ?_)
      refine Exists.intro (0) (And.intro ⟨rfl, by decide, by omega⟩ ?_)
      refine br_t (s1.trans b1) ?_
      refine cl (ct_fd (w := 5) (by decide) rfl _) ?_
      exact And.intro rfl rfl
    · refine Ct.of (by decide +kernel) zX5_copy (Nat.le_of_ble_eq_true rfl) (by decide) (fun X go => ?_)
      refine go.1 [] 100 _ _ _ _ ?_
      refine cl (isOM (b := true) rfl _) ?_
      refine br_f (by decide) ?_
      refine cl (isOM (b := true) rfl _) ?_
      refine br_f (by decide) ?_
      refine Exists.intro (0) (And.intro ⟨rfl, by decide, by omega⟩ ?_)
      refine br_t (show tel σ 5 52 0 = 0 from b1) ?_
      refine cl (ct_finds (w := 5) (by decide) fd5 _) ?_
      exact And.intro rfl rfl
  · by_cases b2 : σ 52 0 = 0
    · refine Pair_fd h 5 ?_ ?_
      · refine Ct.of (by decide +kernel) zX4_copy (Nat.le_of_ble_eq_true rfl) (by decide) (fun X go => ?_)
        refine go.1 [] 100 _ _ _ _ ?_
        refine cl (isSh (b := true) rfl _) ?_
        refine br_f (by decide) ?_
        refine cl (isSh (b := true) rfl _) ?_
        refine br_f (by decide) ?_
        refine Exists.intro (0) (And.intro ⟨rfl, by decide, by omega⟩ ?_)
        refine Exists.intro (0) (And.intro ⟨rfl, by decide, by omega⟩ ?_)
        refine br_f (fun q => b1 (s1.symm.trans q)) ?_
        refine br_t (t1.trans b2) ?_
        refine cl (ct_fd (w := 5) (by decide) rfl _) ?_
        exact And.intro rfl rfl
      · refine Ct.of (by decide +kernel) zX5_copy (Nat.le_of_ble_eq_true rfl) (by decide) (fun X go => ?_)
        refine go.1 [] 100 _ _ _ _ ?_
        refine cl (isOM (b := true) rfl _) ?_
        refine br_f (by decide) ?_
        refine cl (isOM (b := true) rfl _) ?_
        refine br_f (by decide) ?_
        refine Exists.intro (0) (And.intro ⟨rfl, by decide, by omega⟩ ?_)
        refine br_f (show ¬ tel σ 5 52 0 = 0 from b1) ?_
        refine Exists.intro (0) (And.intro ⟨rfl, by decide, by omega⟩ ?_)
        refine br_t (show tel σ 5 52 0 = 0 from b2) ?_
        refine cl (ct_finds (w := 5) (by decide) fd5 _) ?_
        exact And.intro rfl rfl
    · by_cases bb : σ 52 0 = σ 52 0
      · by_cases hp : ptO ls lt f u n
        · obtain ⟨⟨f0, n0, fn⟩, ⟨u0, -, un⟩⟩ := hp
          have hp1 : (0 ≤ f.toInt ∧ 0 ≤ n.toInt ∧ n.toInt ≤ (ls : Int) - f.toInt) := ⟨f0, n0, fn⟩
          have hp2 : (0 ≤ u.toInt ∧ 0 ≤ n.toInt ∧ n.toInt ≤ (lt : Int) - u.toInt) := ⟨u0, n0, un⟩
          obtain ⟨a, ea, rfl⟩ : ∃ a : Nat, f.toInt = a ∧ f = nI a := ⟨f.toInt.toNat, by omega, nI_of_toInt (by omega) (by omega)⟩
          obtain ⟨b, eb, rfl⟩ : ∃ a : Nat, u.toInt = a ∧ u = nI a := ⟨u.toInt.toNat, by omega, nI_of_toInt (by omega) (by omega)⟩
          obtain ⟨c, ec, rfl⟩ : ∃ a : Nat, n.toInt = a ∧ n = nI a := ⟨n.toInt.toNat, by omega, nI_of_toInt (by omega) (by omega)⟩
          have k1 : a + c ≤ ls := by omega
          have k2 : b + c ≤ lt := by omega
          refine ⟨nI c, upr σ 36 (va_cpy (σ 36) (σ 36) a b c), _, ?_, ctm_copy (s := 0) (t := 0) (σ := upr σ 36 (va_cpy (σ 36) (σ 36) a b c)) (by decide) (by decide) b1 b2 bb l1 l2 s3 t3 k1 k2, J_copy h (s := 0) (t := 0) (by decide) (by decide) l1 l2 k1 k2⟩
          refine Ct.of (by decide +kernel) zX4_copy (Nat.le_of_ble_eq_true rfl) (by decide) (fun X go => ?_)
          refine go.1 [] 100 _ _ _ _ ?_
          refine cl (isSh (b := true) rfl _) ?_
          refine br_f (by decide) ?_
          refine cl (isSh (b := true) rfl _) ?_
          refine br_f (by decide) ?_
          refine Exists.intro (0) (And.intro ⟨rfl, by decide, by omega⟩ ?_)
          refine Exists.intro (0) (And.intro ⟨rfl, by decide, by omega⟩ ?_)
          refine br_f (fun q => b1 (s1.symm.trans q)) ?_
          refine br_f (fun q => b2 (t1.symm.trans q)) ?_
          refine br_t ((s1.trans bb).trans t1.symm) ?_
          refine cl (ct_hasPart_0 l1 s2 (nI a) (nI c)) ?_
          rw [dec_t hp1]
          refine br_f (by decide) ?_
          refine cl (ct_hasPart_0 l2 t2 (nI b) (nI c)) ?_
          rw [dec_t hp2]
          refine br_f (by decide) ?_
          refine Exists.intro a (Exists.intro b (Exists.intro c (And.intro ⟨rfl, rfl, rfl, by omega, by omega, by omega, by omega, by omega⟩ ?_)))
          exact And.intro rfl rfl
        · refine Pair_fd h 0 ?_ (ctm_copy_bad (s := 0) (t := 0) (σ := tel σ 0) (by decide) (by decide) b1 b2 bb l1 l2 s3 t3 hp)
          unfold ptO at hp
          refine Ct.of (by decide +kernel) zX4_copy (Nat.le_of_ble_eq_true rfl) (by decide) (fun X go => ?_)
          refine go.1 [] 100 _ _ _ _ ?_
          refine cl (isSh (b := true) rfl _) ?_
          refine br_f (by decide) ?_
          refine cl (isSh (b := true) rfl _) ?_
          refine br_f (by decide) ?_
          refine Exists.intro (0) (And.intro ⟨rfl, by decide, by omega⟩ ?_)
          refine Exists.intro (0) (And.intro ⟨rfl, by decide, by omega⟩ ?_)
          refine br_f (fun q => b1 (s1.symm.trans q)) ?_
          refine br_f (fun q => b2 (t1.symm.trans q)) ?_
          refine br_t ((s1.trans bb).trans t1.symm) ?_
          refine cl (ct_hasPart_0 l1 s2 f n) ?_
          by_cases p1 : (0 ≤ f.toInt ∧ 0 ≤ n.toInt ∧ n.toInt ≤ (ls : Int) - f.toInt)
          · rw [dec_t p1]
            refine br_f (by decide) ?_
            refine cl (ct_hasPart_0 l2 t2 u n) ?_
            rw [dec_f (fun p2 => hp ⟨p1, p2⟩)]
            refine br_t (by decide) ?_
            refine cl (ct_fd (w := 0) (by decide) rfl _) ?_
            exact And.intro rfl rfl
          · rw [dec_f p1]
            refine br_t (by decide) ?_
            refine cl (ct_fd (w := 0) (by decide) rfl _) ?_
            exact And.intro rfl rfl
      · refine Pair_fd h 2 ?_ ?_
        · refine Ct.of (by decide +kernel) zX4_copy (Nat.le_of_ble_eq_true rfl) (by decide) (fun X go => ?_)
          refine go.1 [] 100 _ _ _ _ ?_
          refine cl (isSh (b := true) rfl _) ?_
          refine br_f (by decide) ?_
          refine cl (isSh (b := true) rfl _) ?_
          refine br_f (by decide) ?_
          refine Exists.intro (0) (And.intro ⟨rfl, by decide, by omega⟩ ?_)
          refine Exists.intro (0) (And.intro ⟨rfl, by decide, by omega⟩ ?_)
          refine br_f (fun q => b1 (s1.symm.trans q)) ?_
          refine br_f (fun q => b2 (t1.symm.trans q)) ?_
          refine br_f (fun q => bb ((s1.symm.trans q).trans t1)) ?_
          refine cl (ct_fd (w := 2) (by decide) rfl _) ?_
          exact And.intro rfl rfl
        · refine Ct.of (by decide +kernel) zX5_copy (Nat.le_of_ble_eq_true rfl) (by decide) (fun X go => ?_)
          refine go.1 [] 100 _ _ _ _ ?_
          refine cl (isOM (b := true) rfl _) ?_
          refine br_f (by decide) ?_
          refine cl (isOM (b := true) rfl _) ?_
          refine br_f (by decide) ?_
          refine Exists.intro (0) (And.intro ⟨rfl, by decide, by omega⟩ ?_)
          refine br_f (show ¬ tel σ 2 52 0 = 0 from b1) ?_
          refine Exists.intro (0) (And.intro ⟨rfl, by decide, by omega⟩ ?_)
          refine br_f (show ¬ tel σ 2 52 0 = 0 from b2) ?_
          refine Exists.intro (0) (And.intro ⟨rfl, by decide, by omega⟩ ?_)
          refine Exists.intro (0) (And.intro ⟨rfl, by decide, by omega⟩ ?_)
          refine br_f (show ¬ tel σ 2 52 0 = tel σ 2 52 0 from bb) ?_
          refine cl (ct_finds (w := 2) (by decide) fd2 _) ?_
          exact And.intro rfl rfl

theorem P_copy_0_1 {σ : Sg} (h : J σ) (f u n : Int32) : Pair mX4_copy mX5_copy [.int (nI 0), .int f, .int (nI 1), .int u, .int n] σ := by
  obtain ⟨ls, l1, s2, s3, s1, sb, sn⟩ := J_sh h 0 (by decide)
  obtain ⟨lt, l2, t2, t3, t1, tb, tn⟩ := J_sh h 1 (by decide)
  have s2 : σ 35 2 = nI ls := s2
  have s1 : σ 35 1 = σ 52 0 := s1
  have t2 : σ 37 2 = nI lt := t2
  have t1 : σ 37 1 = σ 52 1 := t1
  by_cases b1 : σ 52 0 = 0
  · refine Pair_fd h 5 ?_ ?_
    · refine Ct.of (by decide +kernel) zX4_copy (Nat.le_of_ble_eq_true rfl) (by decide) (fun X go => ?_)
      refine go.1 [] 100 _ _ _ _ ?_
      refine cl (isSh (b := true) rfl _) ?_
      refine br_f (by decide) ?_
      refine cl (isSh (b := true) rfl _) ?_
      refine br_f (by decide) ?_
      refine Exists.intro (0) (And.intro ⟨rfl, by decide, by omega⟩ ?_)
      refine Exists.intro (1) (And.intro ⟨rfl, by decide, by omega⟩ ?_)
      refine br_t (s1.trans b1) ?_
      refine cl (ct_fd (w := 5) (by decide) rfl _) ?_
      exact And.intro rfl rfl
    · refine Ct.of (by decide +kernel) zX5_copy (Nat.le_of_ble_eq_true rfl) (by decide) (fun X go => ?_)
      refine go.1 [] 100 _ _ _ _ ?_
      refine cl (isOM (b := true) rfl _) ?_
      refine br_f (by decide) ?_
      refine cl (isOM (b := true) rfl _) ?_
      refine br_f (by decide) ?_
      refine Exists.intro (0) (And.intro ⟨rfl, by decide, by omega⟩ ?_)
      refine br_t (show tel σ 5 52 0 = 0 from b1) ?_
      refine cl (ct_finds (w := 5) (by decide) fd5 _) ?_
      exact And.intro rfl rfl
  · by_cases b2 : σ 52 1 = 0
    · refine Pair_fd h 5 ?_ ?_
      · refine Ct.of (by decide +kernel) zX4_copy (Nat.le_of_ble_eq_true rfl) (by decide) (fun X go => ?_)
        refine go.1 [] 100 _ _ _ _ ?_
        refine cl (isSh (b := true) rfl _) ?_
        refine br_f (by decide) ?_
        refine cl (isSh (b := true) rfl _) ?_
        refine br_f (by decide) ?_
        refine Exists.intro (0) (And.intro ⟨rfl, by decide, by omega⟩ ?_)
        refine Exists.intro (1) (And.intro ⟨rfl, by decide, by omega⟩ ?_)
        refine br_f (fun q => b1 (s1.symm.trans q)) ?_
        refine br_t (t1.trans b2) ?_
        refine cl (ct_fd (w := 5) (by decide) rfl _) ?_
        exact And.intro rfl rfl
      · refine Ct.of (by decide +kernel) zX5_copy (Nat.le_of_ble_eq_true rfl) (by decide) (fun X go => ?_)
        refine go.1 [] 100 _ _ _ _ ?_
        refine cl (isOM (b := true) rfl _) ?_
        refine br_f (by decide) ?_
        refine cl (isOM (b := true) rfl _) ?_
        refine br_f (by decide) ?_
        refine Exists.intro (0) (And.intro ⟨rfl, by decide, by omega⟩ ?_)
        refine br_f (show ¬ tel σ 5 52 0 = 0 from b1) ?_
        refine Exists.intro (1) (And.intro ⟨rfl, by decide, by omega⟩ ?_)
        refine br_t (show tel σ 5 52 1 = 0 from b2) ?_
        refine cl (ct_finds (w := 5) (by decide) fd5 _) ?_
        exact And.intro rfl rfl
    · by_cases bb : σ 52 0 = σ 52 1
      · by_cases hp : ptO ls lt f u n
        · obtain ⟨⟨f0, n0, fn⟩, ⟨u0, -, un⟩⟩ := hp
          have hp1 : (0 ≤ f.toInt ∧ 0 ≤ n.toInt ∧ n.toInt ≤ (ls : Int) - f.toInt) := ⟨f0, n0, fn⟩
          have hp2 : (0 ≤ u.toInt ∧ 0 ≤ n.toInt ∧ n.toInt ≤ (lt : Int) - u.toInt) := ⟨u0, n0, un⟩
          obtain ⟨a, ea, rfl⟩ : ∃ a : Nat, f.toInt = a ∧ f = nI a := ⟨f.toInt.toNat, by omega, nI_of_toInt (by omega) (by omega)⟩
          obtain ⟨b, eb, rfl⟩ : ∃ a : Nat, u.toInt = a ∧ u = nI a := ⟨u.toInt.toNat, by omega, nI_of_toInt (by omega) (by omega)⟩
          obtain ⟨c, ec, rfl⟩ : ∃ a : Nat, n.toInt = a ∧ n = nI a := ⟨n.toInt.toNat, by omega, nI_of_toInt (by omega) (by omega)⟩
          have k1 : a + c ≤ ls := by omega
          have k2 : b + c ≤ lt := by omega
          refine ⟨nI c, upr σ 38 (va_cpy (σ 36) (σ 38) a b c), _, ?_, ctm_copy (s := 0) (t := 1) (σ := upr σ 38 (va_cpy (σ 36) (σ 38) a b c)) (by decide) (by decide) b1 b2 bb l1 l2 s3 t3 k1 k2, J_copy h (s := 0) (t := 1) (by decide) (by decide) l1 l2 k1 k2⟩
          refine Ct.of (by decide +kernel) zX4_copy (Nat.le_of_ble_eq_true rfl) (by decide) (fun X go => ?_)
          refine go.1 [] 100 _ _ _ _ ?_
          refine cl (isSh (b := true) rfl _) ?_
          refine br_f (by decide) ?_
          refine cl (isSh (b := true) rfl _) ?_
          refine br_f (by decide) ?_
          refine Exists.intro (0) (And.intro ⟨rfl, by decide, by omega⟩ ?_)
          refine Exists.intro (1) (And.intro ⟨rfl, by decide, by omega⟩ ?_)
          refine br_f (fun q => b1 (s1.symm.trans q)) ?_
          refine br_f (fun q => b2 (t1.symm.trans q)) ?_
          refine br_t ((s1.trans bb).trans t1.symm) ?_
          refine cl (ct_hasPart_0 l1 s2 (nI a) (nI c)) ?_
          rw [dec_t hp1]
          refine br_f (by decide) ?_
          refine cl (ct_hasPart_1 l2 t2 (nI b) (nI c)) ?_
          rw [dec_t hp2]
          refine br_f (by decide) ?_
          refine Exists.intro a (Exists.intro b (Exists.intro c (And.intro ⟨rfl, rfl, rfl, by omega, by omega, by omega, by omega, by omega⟩ ?_)))
          exact And.intro rfl rfl
        · refine Pair_fd h 0 ?_ (ctm_copy_bad (s := 0) (t := 1) (σ := tel σ 0) (by decide) (by decide) b1 b2 bb l1 l2 s3 t3 hp)
          unfold ptO at hp
          refine Ct.of (by decide +kernel) zX4_copy (Nat.le_of_ble_eq_true rfl) (by decide) (fun X go => ?_)
          refine go.1 [] 100 _ _ _ _ ?_
          refine cl (isSh (b := true) rfl _) ?_
          refine br_f (by decide) ?_
          refine cl (isSh (b := true) rfl _) ?_
          refine br_f (by decide) ?_
          refine Exists.intro (0) (And.intro ⟨rfl, by decide, by omega⟩ ?_)
          refine Exists.intro (1) (And.intro ⟨rfl, by decide, by omega⟩ ?_)
          refine br_f (fun q => b1 (s1.symm.trans q)) ?_
          refine br_f (fun q => b2 (t1.symm.trans q)) ?_
          refine br_t ((s1.trans bb).trans t1.symm) ?_
          refine cl (ct_hasPart_0 l1 s2 f n) ?_
          by_cases p1 : (0 ≤ f.toInt ∧ 0 ≤ n.toInt ∧ n.toInt ≤ (ls : Int) - f.toInt)
          · rw [dec_t p1]
            refine br_f (by decide) ?_
            refine cl (ct_hasPart_1 l2 t2 u n) ?_
            rw [dec_f (fun p2 => hp ⟨p1, p2⟩)]
            refine br_t (by decide) ?_
            refine cl (ct_fd (w := 0) (by decide) rfl _) ?_
            exact And.intro rfl rfl
          · rw [dec_f p1]
            refine br_t (by decide) ?_
            refine cl (ct_fd (w := 0) (by decide) rfl _) ?_
            exact And.intro rfl rfl
      · refine Pair_fd h 2 ?_ ?_
        · refine Ct.of (by decide +kernel) zX4_copy (Nat.le_of_ble_eq_true rfl) (by decide) (fun X go => ?_)
          refine go.1 [] 100 _ _ _ _ ?_
          refine cl (isSh (b := true) rfl _) ?_
          refine br_f (by decide) ?_
          refine cl (isSh (b := true) rfl _) ?_
          refine br_f (by decide) ?_
          refine Exists.intro (0) (And.intro ⟨rfl, by decide, by omega⟩ ?_)
          refine Exists.intro (1) (And.intro ⟨rfl, by decide, by omega⟩ ?_)
          refine br_f (fun q => b1 (s1.symm.trans q)) ?_
          refine br_f (fun q => b2 (t1.symm.trans q)) ?_
          refine br_f (fun q => bb ((s1.symm.trans q).trans t1)) ?_
          refine cl (ct_fd (w := 2) (by decide) rfl _) ?_
          exact And.intro rfl rfl
        · refine Ct.of (by decide +kernel) zX5_copy (Nat.le_of_ble_eq_true rfl) (by decide) (fun X go => ?_)
          refine go.1 [] 100 _ _ _ _ ?_
          refine cl (isOM (b := true) rfl _) ?_
          refine br_f (by decide) ?_
          refine cl (isOM (b := true) rfl _) ?_
          refine br_f (by decide) ?_
          refine Exists.intro (0) (And.intro ⟨rfl, by decide, by omega⟩ ?_)
          refine br_f (show ¬ tel σ 2 52 0 = 0 from b1) ?_
          refine Exists.intro (1) (And.intro ⟨rfl, by decide, by omega⟩ ?_)
          refine br_f (show ¬ tel σ 2 52 1 = 0 from b2) ?_
          refine Exists.intro (0) (And.intro ⟨rfl, by decide, by omega⟩ ?_)
          refine Exists.intro (1) (And.intro ⟨rfl, by decide, by omega⟩ ?_)
          refine br_f (show ¬ tel σ 2 52 0 = tel σ 2 52 1 from bb) ?_
          refine cl (ct_finds (w := 2) (by decide) fd2 _) ?_
          exact And.intro rfl rfl

theorem P_copy_0_2 {σ : Sg} (h : J σ) (f u n : Int32) : Pair mX4_copy mX5_copy [.int (nI 0), .int f, .int (nI 2), .int u, .int n] σ := by
  obtain ⟨ls, l1, s2, s3, s1, sb, sn⟩ := J_sh h 0 (by decide)
  obtain ⟨lt, l2, t2, t3, t1, tb, tn⟩ := J_sh h 2 (by decide)
  have s2 : σ 35 2 = nI ls := s2
  have s1 : σ 35 1 = σ 52 0 := s1
  have t2 : σ 39 2 = nI lt := t2
  have t1 : σ 39 1 = σ 52 2 := t1
  by_cases b1 : σ 52 0 = 0
  · refine Pair_fd h 5 ?_ ?_
    · refine Ct.of (by decide +kernel) zX4_copy (Nat.le_of_ble_eq_true rfl) (by decide) (fun X go => ?_)
      refine go.1 [] 100 _ _ _ _ ?_
      refine cl (isSh (b := true) rfl _) ?_
      refine br_f (by decide) ?_
      refine cl (isSh (b := true) rfl _) ?_
      refine br_f (by decide) ?_
      refine Exists.intro (0) (And.intro ⟨rfl, by decide, by omega⟩ ?_)
      refine Exists.intro (2) (And.intro ⟨rfl, by decide, by omega⟩ ?_)
      refine br_t (s1.trans b1) ?_
      refine cl (ct_fd (w := 5) (by decide) rfl _) ?_
      exact And.intro rfl rfl
    · refine Ct.of (by decide +kernel) zX5_copy (Nat.le_of_ble_eq_true rfl) (by decide) (fun X go => ?_)
      refine go.1 [] 100 _ _ _ _ ?_
      refine cl (isOM (b := true) rfl _) ?_
      refine br_f (by decide) ?_
      refine cl (isOM (b := true) rfl _) ?_
      refine br_f (by decide) ?_
      refine Exists.intro (0) (And.intro ⟨rfl, by decide, by omega⟩ ?_)
      refine br_t (show tel σ 5 52 0 = 0 from b1) ?_
      refine cl (ct_finds (w := 5) (by decide) fd5 _) ?_
      exact And.intro rfl rfl
  · by_cases b2 : σ 52 2 = 0
    · refine Pair_fd h 5 ?_ ?_
      · refine Ct.of (by decide +kernel) zX4_copy (Nat.le_of_ble_eq_true rfl) (by decide) (fun X go => ?_)
        refine go.1 [] 100 _ _ _ _ ?_
        refine cl (isSh (b := true) rfl _) ?_
        refine br_f (by decide) ?_
        refine cl (isSh (b := true) rfl _) ?_
        refine br_f (by decide) ?_
        refine Exists.intro (0) (And.intro ⟨rfl, by decide, by omega⟩ ?_)
        refine Exists.intro (2) (And.intro ⟨rfl, by decide, by omega⟩ ?_)
        refine br_f (fun q => b1 (s1.symm.trans q)) ?_
        refine br_t (t1.trans b2) ?_
        refine cl (ct_fd (w := 5) (by decide) rfl _) ?_
        exact And.intro rfl rfl
      · refine Ct.of (by decide +kernel) zX5_copy (Nat.le_of_ble_eq_true rfl) (by decide) (fun X go => ?_)
        refine go.1 [] 100 _ _ _ _ ?_
        refine cl (isOM (b := true) rfl _) ?_
        refine br_f (by decide) ?_
        refine cl (isOM (b := true) rfl _) ?_
        refine br_f (by decide) ?_
        refine Exists.intro (0) (And.intro ⟨rfl, by decide, by omega⟩ ?_)
        refine br_f (show ¬ tel σ 5 52 0 = 0 from b1) ?_
        refine Exists.intro (2) (And.intro ⟨rfl, by decide, by omega⟩ ?_)
        refine br_t (show tel σ 5 52 2 = 0 from b2) ?_
        refine cl (ct_finds (w := 5) (by decide) fd5 _) ?_
        exact And.intro rfl rfl
    · by_cases bb : σ 52 0 = σ 52 2
      · by_cases hp : ptO ls lt f u n
        · obtain ⟨⟨f0, n0, fn⟩, ⟨u0, -, un⟩⟩ := hp
          have hp1 : (0 ≤ f.toInt ∧ 0 ≤ n.toInt ∧ n.toInt ≤ (ls : Int) - f.toInt) := ⟨f0, n0, fn⟩
          have hp2 : (0 ≤ u.toInt ∧ 0 ≤ n.toInt ∧ n.toInt ≤ (lt : Int) - u.toInt) := ⟨u0, n0, un⟩
          obtain ⟨a, ea, rfl⟩ : ∃ a : Nat, f.toInt = a ∧ f = nI a := ⟨f.toInt.toNat, by omega, nI_of_toInt (by omega) (by omega)⟩
          obtain ⟨b, eb, rfl⟩ : ∃ a : Nat, u.toInt = a ∧ u = nI a := ⟨u.toInt.toNat, by omega, nI_of_toInt (by omega) (by omega)⟩
          obtain ⟨c, ec, rfl⟩ : ∃ a : Nat, n.toInt = a ∧ n = nI a := ⟨n.toInt.toNat, by omega, nI_of_toInt (by omega) (by omega)⟩
          have k1 : a + c ≤ ls := by omega
          have k2 : b + c ≤ lt := by omega
          refine ⟨nI c, upr σ 40 (va_cpy (σ 36) (σ 40) a b c), _, ?_, ctm_copy (s := 0) (t := 2) (σ := upr σ 40 (va_cpy (σ 36) (σ 40) a b c)) (by decide) (by decide) b1 b2 bb l1 l2 s3 t3 k1 k2, J_copy h (s := 0) (t := 2) (by decide) (by decide) l1 l2 k1 k2⟩
          refine Ct.of (by decide +kernel) zX4_copy (Nat.le_of_ble_eq_true rfl) (by decide) (fun X go => ?_)
          refine go.1 [] 100 _ _ _ _ ?_
          refine cl (isSh (b := true) rfl _) ?_
          refine br_f (by decide) ?_
          refine cl (isSh (b := true) rfl _) ?_
          refine br_f (by decide) ?_
          refine Exists.intro (0) (And.intro ⟨rfl, by decide, by omega⟩ ?_)
          refine Exists.intro (2) (And.intro ⟨rfl, by decide, by omega⟩ ?_)
          refine br_f (fun q => b1 (s1.symm.trans q)) ?_
          refine br_f (fun q => b2 (t1.symm.trans q)) ?_
          refine br_t ((s1.trans bb).trans t1.symm) ?_
          refine cl (ct_hasPart_0 l1 s2 (nI a) (nI c)) ?_
          rw [dec_t hp1]
          refine br_f (by decide) ?_
          refine cl (ct_hasPart_2 l2 t2 (nI b) (nI c)) ?_
          rw [dec_t hp2]
          refine br_f (by decide) ?_
          refine Exists.intro a (Exists.intro b (Exists.intro c (And.intro ⟨rfl, rfl, rfl, by omega, by omega, by omega, by omega, by omega⟩ ?_)))
          exact And.intro rfl rfl
        · refine Pair_fd h 0 ?_ (ctm_copy_bad (s := 0) (t := 2) (σ := tel σ 0) (by decide) (by decide) b1 b2 bb l1 l2 s3 t3 hp)
          unfold ptO at hp
          refine Ct.of (by decide +kernel) zX4_copy (Nat.le_of_ble_eq_true rfl) (by decide) (fun X go => ?_)
          refine go.1 [] 100 _ _ _ _ ?_
          refine cl (isSh (b := true) rfl _) ?_
          refine br_f (by decide) ?_
          refine cl (isSh (b := true) rfl _) ?_
          refine br_f (by decide) ?_
          refine Exists.intro (0) (And.intro ⟨rfl, by decide, by omega⟩ ?_)
          refine Exists.intro (2) (And.intro ⟨rfl, by decide, by omega⟩ ?_)
          refine br_f (fun q => b1 (s1.symm.trans q)) ?_
          refine br_f (fun q => b2 (t1.symm.trans q)) ?_
          refine br_t ((s1.trans bb).trans t1.symm) ?_
          refine cl (ct_hasPart_0 l1 s2 f n) ?_
          by_cases p1 : (0 ≤ f.toInt ∧ 0 ≤ n.toInt ∧ n.toInt ≤ (ls : Int) - f.toInt)
          · rw [dec_t p1]
            refine br_f (by decide) ?_
            refine cl (ct_hasPart_2 l2 t2 u n) ?_
            rw [dec_f (fun p2 => hp ⟨p1, p2⟩)]
            refine br_t (by decide) ?_
            refine cl (ct_fd (w := 0) (by decide) rfl _) ?_
            exact And.intro rfl rfl
          · rw [dec_f p1]
            refine br_t (by decide) ?_
            refine cl (ct_fd (w := 0) (by decide) rfl _) ?_
            exact And.intro rfl rfl
      · refine Pair_fd h 2 ?_ ?_
        · refine Ct.of (by decide +kernel) zX4_copy (Nat.le_of_ble_eq_true rfl) (by decide) (fun X go => ?_)
          refine go.1 [] 100 _ _ _ _ ?_
          refine cl (isSh (b := true) rfl _) ?_
          refine br_f (by decide) ?_
          refine cl (isSh (b := true) rfl _) ?_
          refine br_f (by decide) ?_
          refine Exists.intro (0) (And.intro ⟨rfl, by decide, by omega⟩ ?_)
          refine Exists.intro (2) (And.intro ⟨rfl, by decide, by omega⟩ ?_)
          refine br_f (fun q => b1 (s1.symm.trans q)) ?_
          refine br_f (fun q => b2 (t1.symm.trans q)) ?_
          refine br_f (fun q => bb ((s1.symm.trans q).trans t1)) ?_
          refine cl (ct_fd (w := 2) (by decide) rfl _) ?_
          exact And.intro rfl rfl
        · refine Ct.of (by decide +kernel) zX5_copy (Nat.le_of_ble_eq_true rfl) (by decide) (fun X go => ?_)
          refine go.1 [] 100 _ _ _ _ ?_
          refine cl (isOM (b := true) rfl _) ?_
          refine br_f (by decide) ?_
          refine cl (isOM (b := true) rfl _) ?_
          refine br_f (by decide) ?_
          refine Exists.intro (0) (And.intro ⟨rfl, by decide, by omega⟩ ?_)
          refine br_f (show ¬ tel σ 2 52 0 = 0 from b1) ?_
          refine Exists.intro (2) (And.intro ⟨rfl, by decide, by omega⟩ ?_)
          refine br_f (show ¬ tel σ 2 52 2 = 0 from b2) ?_
          refine Exists.intro (0) (And.intro ⟨rfl, by decide, by omega⟩ ?_)
          refine Exists.intro (2) (And.intro ⟨rfl, by decide, by omega⟩ ?_)
          refine br_f (show ¬ tel σ 2 52 0 = tel σ 2 52 2 from bb) ?_
          refine cl (ct_finds (w := 2) (by decide) fd2 _) ?_
          exact And.intro rfl rfl

theorem P_copy_0_3 {σ : Sg} (h : J σ) (f u n : Int32) : Pair mX4_copy mX5_copy [.int (nI 0), .int f, .int (nI 3), .int u, .int n] σ := by
  obtain ⟨ls, l1, s2, s3, s1, sb, sn⟩ := J_sh h 0 (by decide)
  obtain ⟨lt, l2, t2, t3, t1, tb, tn⟩ := J_sh h 3 (by decide)
  have s2 : σ 35 2 = nI ls := s2
  have s1 : σ 35 1 = σ 52 0 := s1
  have t2 : σ 41 2 = nI lt := t2
  have t1 : σ 41 1 = σ 52 3 := t1
  by_cases b1 : σ 52 0 = 0
  · refine Pair_fd h 5 ?_ ?_
    · refine Ct.of (by decide +kernel) zX4_copy (Nat.le_of_ble_eq_true rfl) (by decide) (fun X go => ?_)
      refine go.1 [] 100 _ _ _ _ ?_
      refine cl (isSh (b := true) rfl _) ?_
      refine br_f (by decide) ?_
      refine cl (isSh (b := true) rfl _) ?_
      refine br_f (by decide) ?_
      refine Exists.intro (0) (And.intro ⟨rfl, by decide, by omega⟩ ?_)
      refine Exists.intro (3) (And.intro ⟨rfl, by decide, by omega⟩ ?_)
      refine br_t (s1.trans b1) ?_
      refine cl (ct_fd (w := 5) (by decide) rfl _) ?_
      exact And.intro rfl rfl
    · refine Ct.of (by decide +kernel) zX5_copy (Nat.le_of_ble_eq_true rfl) (by decide) (fun X go => ?_)
      refine go.1 [] 100 _ _ _ _ ?_
      refine cl (isOM (b := true) rfl _) ?_
      refine br_f (by decide) ?_
      refine cl (isOM (b := true) rfl _) ?_
      refine br_f (by decide) ?_
      refine Exists.intro (0) (And.intro ⟨rfl, by decide, by omega⟩ ?_)
      refine br_t (show tel σ 5 52 0 = 0 from b1) ?_
      refine cl (ct_finds (w := 5) (by decide) fd5 _) ?_
      exact And.intro rfl rfl
  · by_cases b2 : σ 52 3 = 0
    · refine Pair_fd h 5 ?_ ?_
      · refine Ct.of (by decide +kernel) zX4_copy (Nat.le_of_ble_eq_true rfl) (by decide) (fun X go => ?_)
        refine go.1 [] 100 _ _ _ _ ?_
        refine cl (isSh (b := true) rfl _) ?_
        refine br_f (by decide) ?_
        refine cl (isSh (b := true) rfl _) ?_
        refine br_f (by decide) ?_
        refine Exists.intro (0) (And.intro ⟨rfl, by decide, by omega⟩ ?_)
        refine Exists.intro (3) (And.intro ⟨rfl, by decide, by omega⟩ ?_)
        refine br_f (fun q => b1 (s1.symm.trans q)) ?_
        refine br_t (t1.trans b2) ?_
        refine cl (ct_fd (w := 5) (by decide) rfl _) ?_
        exact And.intro rfl rfl
      · refine Ct.of (by decide +kernel) zX5_copy (Nat.le_of_ble_eq_true rfl) (by decide) (fun X go => ?_)
        refine go.1 [] 100 _ _ _ _ ?_
        refine cl (isOM (b := true) rfl _) ?_
        refine br_f (by decide) ?_
        refine cl (isOM (b := true) rfl _) ?_
        refine br_f (by decide) ?_
        refine Exists.intro (0) (And.intro ⟨rfl, by decide, by omega⟩ ?_)
        refine br_f (show ¬ tel σ 5 52 0 = 0 from b1) ?_
        refine Exists.intro (3) (And.intro ⟨rfl, by decide, by omega⟩ ?_)
        refine br_t (show tel σ 5 52 3 = 0 from b2) ?_
        refine cl (ct_finds (w := 5) (by decide) fd5 _) ?_
        exact And.intro rfl rfl
    · by_cases bb : σ 52 0 = σ 52 3
      · by_cases hp : ptO ls lt f u n
        · obtain ⟨⟨f0, n0, fn⟩, ⟨u0, -, un⟩⟩ := hp
          have hp1 : (0 ≤ f.toInt ∧ 0 ≤ n.toInt ∧ n.toInt ≤ (ls : Int) - f.toInt) := ⟨f0, n0, fn⟩
          have hp2 : (0 ≤ u.toInt ∧ 0 ≤ n.toInt ∧ n.toInt ≤ (lt : Int) - u.toInt) := ⟨u0, n0, un⟩
          obtain ⟨a, ea, rfl⟩ : ∃ a : Nat, f.toInt = a ∧ f = nI a := ⟨f.toInt.toNat, by omega, nI_of_toInt (by omega) (by omega)⟩
          obtain ⟨b, eb, rfl⟩ : ∃ a : Nat, u.toInt = a ∧ u = nI a := ⟨u.toInt.toNat, by omega, nI_of_toInt (by omega) (by omega)⟩
          obtain ⟨c, ec, rfl⟩ : ∃ a : Nat, n.toInt = a ∧ n = nI a := ⟨n.toInt.toNat, by omega, nI_of_toInt (by omega) (by omega)⟩
          have k1 : a + c ≤ ls := by omega
          have k2 : b + c ≤ lt := by omega
          refine ⟨nI c, upr σ 42 (va_cpy (σ 36) (σ 42) a b c), _, ?_, ctm_copy (s := 0) (t := 3) (σ := upr σ 42 (va_cpy (σ 36) (σ 42) a b c)) (by decide) (by decide) b1 b2 bb l1 l2 s3 t3 k1 k2, J_copy h (s := 0) (t := 3) (by decide) (by decide) l1 l2 k1 k2⟩
          refine Ct.of (by decide +kernel) zX4_copy (Nat.le_of_ble_eq_true rfl) (by decide) (fun X go => ?_)
          refine go.1 [] 100 _ _ _ _ ?_
          refine cl (isSh (b := true) rfl _) ?_
          refine br_f (by decide) ?_
          refine cl (isSh (b := true) rfl _) ?_
          refine br_f (by decide) ?_
          refine Exists.intro (0) (And.intro ⟨rfl, by decide, by omega⟩ ?_)
          refine Exists.intro (3) (And.intro ⟨rfl, by decide, by omega⟩ ?_)
          refine br_f (fun q => b1 (s1.symm.trans q)) ?_
          refine br_f (fun q => b2 (t1.symm.trans q)) ?_
          refine br_t ((s1.trans bb).trans t1.symm) ?_
          refine cl (ct_hasPart_0 l1 s2 (nI a) (nI c)) ?_
          rw [dec_t hp1]
          refine br_f (by decide) ?_
          refine cl (ct_hasPart_3 l2 t2 (nI b) (nI c)) ?_
          rw [dec_t hp2]
          refine br_f (by decide) ?_
          refine Exists.intro a (Exists.intro b (Exists.intro c (And.intro ⟨rfl, rfl, rfl, by omega, by omega, by omega, by omega, by omega⟩ ?_)))
          exact And.intro rfl rfl
        · refine Pair_fd h 0 ?_ (ctm_copy_bad (s := 0) (t := 3) (σ := tel σ 0) (by decide) (by decide) b1 b2 bb l1 l2 s3 t3 hp)
          unfold ptO at hp
          refine Ct.of (by decide +kernel) zX4_copy (Nat.le_of_ble_eq_true rfl) (by decide) (fun X go => ?_)
          refine go.1 [] 100 _ _ _ _ ?_
          refine cl (isSh (b := true) rfl _) ?_
          refine br_f (by decide) ?_
          refine cl (isSh (b := true) rfl _) ?_
          refine br_f (by decide) ?_
          refine Exists.intro (0) (And.intro ⟨rfl, by decide, by omega⟩ ?_)
          refine Exists.intro (3) (And.intro ⟨rfl, by decide, by omega⟩ ?_)
          refine br_f (fun q => b1 (s1.symm.trans q)) ?_
          refine br_f (fun q => b2 (t1.symm.trans q)) ?_
          refine br_t ((s1.trans bb).trans t1.symm) ?_
          refine cl (ct_hasPart_0 l1 s2 f n) ?_
          by_cases p1 : (0 ≤ f.toInt ∧ 0 ≤ n.toInt ∧ n.toInt ≤ (ls : Int) - f.toInt)
          · rw [dec_t p1]
            refine br_f (by decide) ?_
            refine cl (ct_hasPart_3 l2 t2 u n) ?_
            rw [dec_f (fun p2 => hp ⟨p1, p2⟩)]
            refine br_t (by decide) ?_
            refine cl (ct_fd (w := 0) (by decide) rfl _) ?_
            exact And.intro rfl rfl
          · rw [dec_f p1]
            refine br_t (by decide) ?_
            refine cl (ct_fd (w := 0) (by decide) rfl _) ?_
            exact And.intro rfl rfl
      · refine Pair_fd h 2 ?_ ?_
        · refine Ct.of (by decide +kernel) zX4_copy (Nat.le_of_ble_eq_true rfl) (by decide) (fun X go => ?_)
          refine go.1 [] 100 _ _ _ _ ?_
          refine cl (isSh (b := true) rfl _) ?_
          refine br_f (by decide) ?_
          refine cl (isSh (b := true) rfl _) ?_
          refine br_f (by decide) ?_
          refine Exists.intro (0) (And.intro ⟨rfl, by decide, by omega⟩ ?_)
          refine Exists.intro (3) (And.intro ⟨rfl, by decide, by omega⟩ ?_)
          refine br_f (fun q => b1 (s1.symm.trans q)) ?_
          refine br_f (fun q => b2 (t1.symm.trans q)) ?_
          refine br_f (fun q => bb ((s1.symm.trans q).trans t1)) ?_
          refine cl (ct_fd (w := 2) (by decide) rfl _) ?_
          exact And.intro rfl rfl
        · refine Ct.of (by decide +kernel) zX5_copy (Nat.le_of_ble_eq_true rfl) (by decide) (fun X go => ?_)
          refine go.1 [] 100 _ _ _ _ ?_
          refine cl (isOM (b := true) rfl _) ?_
          refine br_f (by decide) ?_
          refine cl (isOM (b := true) rfl _) ?_
          refine br_f (by decide) ?_
          refine Exists.intro (0) (And.intro ⟨rfl, by decide, by omega⟩ ?_)
          refine br_f (show ¬ tel σ 2 52 0 = 0 from b1) ?_
          refine Exists.intro (3) (And.intro ⟨rfl, by decide, by omega⟩ ?_)
          refine br_f (show ¬ tel σ 2 52 3 = 0 from b2) ?_
          refine Exists.intro (0) (And.intro ⟨rfl, by decide, by omega⟩ ?_)
          refine Exists.intro (3) (And.intro ⟨rfl, by decide, by omega⟩ ?_)
          refine br_f (show ¬ tel σ 2 52 0 = tel σ 2 52 3 from bb) ?_
          refine cl (ct_finds (w := 2) (by decide) fd2 _) ?_
          exact And.intro rfl rfl

theorem P_copy_1_0 {σ : Sg} (h : J σ) (f u n : Int32) : Pair mX4_copy mX5_copy [.int (nI 1), .int f, .int (nI 0), .int u, .int n] σ := by
  obtain ⟨ls, l1, s2, s3, s1, sb, sn⟩ := J_sh h 1 (by decide)
  obtain ⟨lt, l2, t2, t3, t1, tb, tn⟩ := J_sh h 0 (by decide)
  have s2 : σ 37 2 = nI ls := s2
  have s1 : σ 37 1 = σ 52 1 := s1
  have t2 : σ 35 2 = nI lt := t2
  have t1 : σ 35 1 = σ 52 0 := t1
  by_cases b1 : σ 52 1 = 0
  · refine Pair_fd h 5 ?_ ?_
    · refine Ct.of (by decide +kernel) zX4_copy (Nat.le_of_ble_eq_true rfl) (by decide) (fun X go => ?_)
      refine go.1 [] 100 _ _ _ _ ?_
      refine cl (isSh (b := true) rfl _) ?_
      refine br_f (by decide) ?_
      refine cl (isSh (b := true) rfl _) ?_
      refine br_f (by decide) ?_
      refine Exists.intro (1) (And.intro ⟨rfl, by decide, by omega⟩ ?_)
      refine Exists.intro (0) (And.intro ⟨rfl, by decide, by omega⟩ ?_)
      refine br_t (s1.trans b1) ?_
      refine cl (ct_fd (w := 5) (by decide) rfl _) ?_
      exact And.intro rfl rfl
    · refine Ct.of (by decide +kernel) zX5_copy (Nat.le_of_ble_eq_true rfl) (by decide) (fun X go => ?_)
      refine go.1 [] 100 _ _ _ _ ?_
      refine cl (isOM (b := true) rfl _) ?_
      refine br_f (by decide) ?_
      refine cl (isOM (b := true) rfl _) ?_
      refine br_f (by decide) ?_
      refine Exists.intro (1) (And.intro ⟨rfl, by decide, by omega⟩ ?_)
      refine br_t (show tel σ 5 52 1 = 0 from b1) ?_
      refine cl (ct_finds (w := 5) (by decide) fd5 _) ?_
      exact And.intro rfl rfl
  · by_cases b2 : σ 52 0 = 0
    · refine Pair_fd h 5 ?_ ?_
      · refine Ct.of (by decide +kernel) zX4_copy (Nat.le_of_ble_eq_true rfl) (by decide) (fun X go => ?_)
        refine go.1 [] 100 _ _ _ _ ?_
        refine cl (isSh (b := true) rfl _) ?_
        refine br_f (by decide) ?_
        refine cl (isSh (b := true) rfl _) ?_
        refine br_f (by decide) ?_
        refine Exists.intro (1) (And.intro ⟨rfl, by decide, by omega⟩ ?_)
        refine Exists.intro (0) (And.intro ⟨rfl, by decide, by omega⟩ ?_)
        refine br_f (fun q => b1 (s1.symm.trans q)) ?_
        refine br_t (t1.trans b2) ?_
        refine cl (ct_fd (w := 5) (by decide) rfl _) ?_
        exact And.intro rfl rfl
      · refine Ct.of (by decide +kernel) zX5_copy (Nat.le_of_ble_eq_true rfl) (by decide) (fun X go => ?_)
        refine go.1 [] 100 _ _ _ _ ?_
        refine cl (isOM (b := true) rfl _) ?_
        refine br_f (by decide) ?_
        refine cl (isOM (b := true) rfl _) ?_
        refine br_f (by decide) ?_
        refine Exists.intro (1) (And.intro ⟨rfl, by decide, by omega⟩ ?_)
        refine br_f (show ¬ tel σ 5 52 1 = 0 from b1) ?_
        refine Exists.intro (0) (And.intro ⟨rfl, by decide, by omega⟩ ?_)
        refine br_t (show tel σ 5 52 0 = 0 from b2) ?_
        refine cl (ct_finds (w := 5) (by decide) fd5 _) ?_
        exact And.intro rfl rfl
    · by_cases bb : σ 52 1 = σ 52 0
      · by_cases hp : ptO ls lt f u n
        · obtain ⟨⟨f0, n0, fn⟩, ⟨u0, -, un⟩⟩ := hp
          have hp1 : (0 ≤ f.toInt ∧ 0 ≤ n.toInt ∧ n.toInt ≤ (ls : Int) - f.toInt) := ⟨f0, n0, fn⟩
          have hp2 : (0 ≤ u.toInt ∧ 0 ≤ n.toInt ∧ n.toInt ≤ (lt : Int) - u.toInt) := ⟨u0, n0, un⟩
          obtain ⟨a, ea, rfl⟩ : ∃ a : Nat, f.toInt = a ∧ f = nI a := ⟨f.toInt.toNat, by omega, nI_of_toInt (by omega) (by omega)⟩
          obtain ⟨b, eb, rfl⟩ : ∃ a : Nat, u.toInt = a ∧ u = nI a := ⟨u.toInt.toNat, by omega, nI_of_toInt (by omega) (by omega)⟩
          obtain ⟨c, ec, rfl⟩ : ∃ a : Nat, n.toInt = a ∧ n = nI a := ⟨n.toInt.toNat, by omega, nI_of_toInt (by omega) (by omega)⟩
          have k1 : a + c ≤ ls := by omega
          have k2 : b + c ≤ lt := by omega
          refine ⟨nI c, upr σ 36 (va_cpy (σ 38) (σ 36) a b c), _, ?_, ctm_copy (s := 1) (t := 0) (σ := upr σ 36 (va_cpy (σ 38) (σ 36) a b c)) (by decide) (by decide) b1 b2 bb l1 l2 s3 t3 k1 k2, J_copy h (s := 1) (t := 0) (by decide) (by decide) l1 l2 k1 k2⟩
          refine Ct.of (by decide +kernel) zX4_copy (Nat.le_of_ble_eq_true rfl) (by decide) (fun X go => ?_)
          refine go.1 [] 100 _ _ _ _ ?_
          refine cl (isSh (b := true) rfl _) ?_
          refine br_f (by decide) ?_
          refine cl (isSh (b := true) rfl _) ?_
          refine br_f (by decide) ?_
          refine Exists.intro (1) (And.intro ⟨rfl, by decide, by omega⟩ ?_)
          refine Exists.intro (0) (And.intro ⟨rfl, by decide, by omega⟩ ?_)
          refine br_f (fun q => b1 (s1.symm.trans q)) ?_
          refine br_f (fun q => b2 (t1.symm.trans q)) ?_
          refine br_t ((s1.trans bb).trans t1.symm) ?_
          refine cl (ct_hasPart_1 l1 s2 (nI a) (nI c)) ?_
          rw [dec_t hp1]
          refine br_f (by decide) ?_
          refine cl (ct_hasPart_0 l2 t2 (nI b) (nI c)) ?_
          rw [dec_t hp2]
          refine br_f (by decide) ?_
          refine Exists.intro a (Exists.intro b (Exists.intro c (And.intro ⟨rfl, rfl, rfl, by omega, by omega, by omega, by omega, by omega⟩ ?_)))
          exact And.intro rfl rfl
        · refine Pair_fd h 0 ?_ (ctm_copy_bad (s := 1) (t := 0) (σ := tel σ 0) (by decide) (by decide) b1 b2 bb l1 l2 s3 t3 hp)
          unfold ptO at hp
          refine Ct.of (by decide +kernel) zX4_copy (Nat.le_of_ble_eq_true rfl) (by decide) (fun X go => ?_)
          refine go.1 [] 100 _ _ _ _ ?_
          refine cl (isSh (b := true) rfl _) ?_
          refine br_f (by decide) ?_
          refine cl (isSh (b := true) rfl _) ?_
          refine br_f (by decide) ?_
          refine Exists.intro (1) (And.intro ⟨rfl, by decide, by omega⟩ ?_)
          refine Exists.intro (0) (And.intro ⟨rfl, by decide, by omega⟩ ?_)
          refine br_f (fun q => b1 (s1.symm.trans q)) ?_
          refine br_f (fun q => b2 (t1.symm.trans q)) ?_
          refine br_t ((s1.trans bb).trans t1.symm) ?_
          refine cl (ct_hasPart_1 l1 s2 f n) ?_
          by_cases p1 : (0 ≤ f.toInt ∧ 0 ≤ n.toInt ∧ n.toInt ≤ (ls : Int) - f.toInt)
          · rw [dec_t p1]
            refine br_f (by decide) ?_
            refine cl (ct_hasPart_0 l2 t2 u n) ?_
            rw [dec_f (fun p2 => hp ⟨p1, p2⟩)]
            refine br_t (by decide) ?_
            refine cl (ct_fd (w := 0) (by decide) rfl _) ?_
            exact And.intro rfl rfl
          · rw [dec_f p1]
            refine br_t (by decide) ?_
            refine cl (ct_fd (w := 0) (by decide) rfl _) ?_
            exact And.intro rfl rfl
      · refine Pair_fd h 2 ?_ ?_
        · refine Ct.of (by decide +kernel) zX4_copy (Nat.le_of_ble_eq_true rfl) (by decide) (fun X go => ?_)
          refine go.1 [] 100 _ _ _ _ ?_
          refine cl (isSh (b := true) rfl _) ?_
          refine br_f (by decide) ?_
          refine cl (isSh (b := true) rfl _) ?_
          refine br_f (by decide) ?_
          refine Exists.intro (1) (And.intro ⟨rfl, by decide, by omega⟩ ?_)
          refine Exists.intro (0) (And.intro ⟨rfl, by decide, by omega⟩ ?_)
          refine br_f (fun q => b1 (s1.symm.trans q)) ?_
          refine br_f (fun q => b2 (t1.symm.trans q)) ?_
          refine br_f (fun q => bb ((s1.symm.trans q).trans t1)) ?_
          refine cl (ct_fd (w := 2) (by decide) rfl _) ?_
          exact And.intro rfl rfl
        · refine Ct.of (by decide +kernel) zX5_copy (Nat.le_of_ble_eq_true rfl) (by decide) (fun X go => ?_)
          refine go.1 [] 100 _ _ _ _ ?_
          refine cl (isOM (b := true) rfl _) ?_
          refine br_f (by decide) ?_
          refine cl (isOM (b := true) rfl _) ?_
          refine br_f (by decide) ?_
          refine Exists.intro (1) (And.intro ⟨rfl, by decide, by omega⟩ ?_)
          refine br_f (show ¬ tel σ 2 52 1 = 0 from b1) ?_
          refine Exists.intro (0) (And.intro ⟨rfl, by decide, by omega⟩ ?_)
          refine br_f (show ¬ tel σ 2 52 0 = 0 from b2) ?_
          refine Exists.intro (1) (And.intro ⟨rfl, by decide, by omega⟩ ?_)
          refine Exists.intro (0) (And.intro ⟨rfl, by decide, by omega⟩ ?_)
          refine br_f (show ¬ tel σ 2 52 1 = tel σ 2 52 0 from bb) ?_
          refine cl (ct_finds (w := 2) (by decide) fd2 _) ?_
          exact And.intro rfl rfl

theorem P_copy_1_1 {σ : Sg} (h : J σ) (f u n : Int32) : Pair mX4_copy mX5_copy [.int (nI 1), .int f, .int (nI 1), .int u, .int n] σ := by
  obtain ⟨ls, l1, s2, s3, s1, sb, sn⟩ := J_sh h 1 (by decide)
  obtain ⟨lt, l2, t2, t3, t1, tb, tn⟩ := J_sh h 1 (by decide)
  have s2 : σ 37 2 = nI ls := s2
  have s1 : σ 37 1 = σ 52 1 := s1
  have t2 : σ 37 2 = nI lt := t2
  have t1 : σ 37 1 = σ 52 1 := t1
  by_cases b1 : σ 52 1 = 0
  · refine Pair_fd h 5 ?_ ?_
    · refine Ct.of (by decide +kernel) zX4_copy (Nat.le_of_ble_eq_true rfl) (by decide) (fun X go => ?_)
      refine go.1 [] 100 _ _ _ _ ?_
      refine cl (isSh (b := true) rfl _) ?_
      refine br_f (by decide) ?_
      refine cl (isSh (b := true) rfl _) ?_
      refine br_f (by decide) ?_
      refine Exists.intro (1) (And.intro ⟨rfl, by decide, by omega⟩ ?_)
      refine Exists.intro (1) (And.intro ⟨rfl, by decide, by omega⟩ ?_)
      refine br_t (s1.trans b1) ?_
      refine cl (ct_fd (w := 5) (by decide) rfl _) ?_
      exact And.intro rfl rfl
    · refine Ct.of (by decide +kernel) zX5_copy (Nat.le_of_ble_eq_true rfl) (by decide) (fun X go => ?_)
      refine go.1 [] 100 _ _ _ _ ?_
      refine cl (isOM (b := true) rfl _) ?_
      refine br_f (by decide) ?_
      refine cl (isOM (b := true) rfl _) ?_
      refine br_f (by decide) ?_
      refine Exists.intro (1) (And.intro ⟨rfl, by decide, by omega⟩ ?_)
      refine br_t (show tel σ 5 52 1 = 0 from b1) ?_
      refine cl (ct_finds (w := 5) (by decide) fd5 _) ?_
      exact And.intro rfl rfl
  · by_cases b2 : σ 52 1 = 0
    · refine Pair_fd h 5 ?_ ?_
      · refine Ct.of (by decide +kernel) zX4_copy (Nat.le_of_ble_eq_true rfl) (by decide) (fun X go => ?_)
        refine go.1 [] 100 _ _ _ _ ?_
        refine cl (isSh (b := true) rfl _) ?_
        refine br_f (by decide) ?_
        refine cl (isSh (b := true) rfl _) ?_
        refine br_f (by decide) ?_
        refine Exists.intro (1) (And.intro ⟨rfl, by decide, by omega⟩ ?_)
        refine Exists.intro (1) (And.intro ⟨rfl, by decide, by omega⟩ ?_)
        refine br_f (fun q => b1 (s1.symm.trans q)) ?_
        refine br_t (t1.trans b2) ?_
        refine cl (ct_fd (w := 5) (by decide) rfl _) ?_
        exact And.intro rfl rfl
      · refine Ct.of (by decide +kernel) zX5_copy (Nat.le_of_ble_eq_true rfl) (by decide) (fun X go => ?_)
        refine go.1 [] 100 _ _ _ _ ?_
        refine cl (isOM (b := true) rfl _) ?_
        refine br_f (by decide) ?_
        refine cl (isOM (b := true) rfl _) ?_
        refine br_f (by decide) ?_
        refine Exists.intro (1) (And.intro ⟨rfl, by decide, by omega⟩ ?_)
        refine br_f (show ¬ tel σ 5 52 1 = 0 from b1) ?_
        refine Exists.intro (1) (And.intro ⟨rfl, by decide, by omega⟩ ?_)
        refine br_t (show tel σ 5 52 1 = 0 from b2) ?_
        refine cl (ct_finds (w := 5) (by decide) fd5 _) ?_
        exact And.intro rfl rfl
    · by_cases bb : σ 52 1 = σ 52 1
      · by_cases hp : ptO ls lt f u n
        · obtain ⟨⟨f0, n0, fn⟩, ⟨u0, -, un⟩⟩ := hp
          have hp1 : (0 ≤ f.toInt ∧ 0 ≤ n.toInt ∧ n.toInt ≤ (ls : Int) - f.toInt) := ⟨f0, n0, fn⟩
          have hp2 : (0 ≤ u.toInt ∧ 0 ≤ n.toInt ∧ n.toInt ≤ (lt : Int) - u.toInt) := ⟨u0, n0, un⟩
          obtain ⟨a, ea, rfl⟩ : ∃ a : Nat, f.toInt = a ∧ f = nI a := ⟨f.toInt.toNat, by omega, nI_of_toInt (by omega) (by omega)⟩
          obtain ⟨b, eb, rfl⟩ : ∃ a : Nat, u.toInt = a ∧ u = nI a := ⟨u.toInt.toNat, by omega, nI_of_toInt (by omega) (by omega)⟩
          obtain ⟨c, ec, rfl⟩ : ∃ a : Nat, n.toInt = a ∧ n = nI a := ⟨n.toInt.toNat, by omega, nI_of_toInt (by omega) (by omega)⟩
          have k1 : a + c ≤ ls := by omega
          have k2 : b + c ≤ lt := by omega
          refine ⟨nI c, upr σ 38 (va_cpy (σ 38) (σ 38) a b c), _, ?_, ctm_copy (s := 1) (t := 1) (σ := upr σ 38 (va_cpy (σ 38) (σ 38) a b c)) (by decide) (by decide) b1 b2 bb l1 l2 s3 t3 k1 k2, J_copy h (s := 1) (t := 1) (by decide) (by decide) l1 l2 k1 k2⟩
          refine Ct.of (by decide +kernel) zX4_copy (Nat.le_of_ble_eq_true rfl) (by decide) (fun X go => ?_)
          refine go.1 [] 100 _ _ _ _ ?_
          refine cl (isSh (b := true) rfl _) ?_
          refine br_f (by decide) ?_
          refine cl (isSh (b := true) rfl _) ?_
          refine br_f (by decide) ?_
          refine Exists.intro (1) (And.intro ⟨rfl, by decide, by omega⟩ ?_)
          refine Exists.intro (1) (And.intro ⟨rfl, by decide, by omega⟩ ?_)
          refine br_f (fun q => b1 (s1.symm.trans q)) ?_
          refine br_f (fun q => b2 (t1.symm.trans q)) ?_
          refine br_t ((s1.trans bb).trans t1.symm) ?_
          refine cl (ct_hasPart_1 l1 s2 (nI a) (nI c)) ?_
          rw [dec_t hp1]
          refine br_f (by decide) ?_
          refine cl (ct_hasPart_1 l2 t2 (nI b) (nI c)) ?_
          rw [dec_t hp2]
          refine br_f (by decide) ?_
          refine Exists.intro a (Exists.intro b (Exists.intro c (And.intro ⟨rfl, rfl, rfl, by omega, by omega, by omega, by omega, by omega⟩ ?_)))
          exact And.intro rfl rfl
        · refine Pair_fd h 0 ?_ (ctm_copy_bad (s := 1) (t := 1) (σ := tel σ 0) (by decide) (by decide) b1 b2 bb l1 l2 s3 t3 hp)
          unfold ptO at hp
          refine Ct.of (by decide +kernel) zX4_copy (Nat.le_of_ble_eq_true rfl) (by decide) (fun X go => ?_)
          refine go.1 [] 100 _ _ _ _ ?_
          refine cl (isSh (b := true) rfl _) ?_
          refine br_f (by decide) ?_
          refine cl (isSh (b := true) rfl _) ?_
          refine br_f (by decide) ?_
          refine Exists.intro (1) (And.intro ⟨rfl, by decide, by omega⟩ ?_)
          refine Exists.intro (1) (And.intro ⟨rfl, by decide, by omega⟩ ?_)
          refine br_f (fun q => b1 (s1.symm.trans q)) ?_
          refine br_f (fun q => b2 (t1.symm.trans q)) ?_
          refine br_t ((s1.trans bb).trans t1.symm) ?_
          refine cl (ct_hasPart_1 l1 s2 f n) ?_
          by_cases p1 : (0 ≤ f.toInt ∧ 0 ≤ n.toInt ∧ n.toInt ≤ (ls : Int) - f.toInt)
          · rw [dec_t p1]
            refine br_f (by decide) ?_
            refine cl (ct_hasPart_1 l2 t2 u n) ?_
            rw [dec_f (fun p2 => hp ⟨p1, p2⟩)]
            refine br_t (by decide) ?_
            refine cl (ct_fd (w := 0) (by decide) rfl _) ?_
            exact And.intro rfl rfl
          · rw [dec_f p1]
            refine br_t (by decide) ?_
            refine cl (ct_fd (w := 0) (by decide) rfl _) ?_
            exact And.intro rfl rfl
      · refine Pair_fd h 2 ?_ ?_
        · refine Ct.of (by decide +kernel) zX4_copy (Nat.le_of_ble_eq_true rfl) (by decide) (fun X go => ?_)
          refine go.1 [] 100 _ _ _ _ ?_
          refine cl (isSh (b := true) rfl _) ?_
          refine br_f (by decide) ?_
          refine cl (isSh (b := true) rfl _) ?_
          refine br_f (by decide) ?_
          refine Exists.intro (1) (And.intro ⟨rfl, by decide, by omega⟩ ?_)
          refine Exists.intro (1) (And.intro ⟨rfl, by decide, by omega⟩ ?_)
          refine br_f (fun q => b1 (s1.symm.trans q)) ?_
          refine br_f (fun q => b2 (t1.symm.trans q)) ?_
          refine br_f (fun q => bb ((s1.symm.trans q).trans t1)) ?_
          refine cl (ct_fd (w := 2) (by decide) rfl _) ?_
          exact And.intro rfl rfl
        · refine Ct.of (by decide +kernel) zX5_copy (Nat.le_of_ble_eq_true rfl) (by decide) (fun X go => ?_)
          refine go.1 [] 100 _ _ _ _ ?_
          refine cl (isOM (b := true) rfl _) ?_
          refine br_f (by decide) ?_
          refine cl (isOM (b := true) rfl _) ?_
          refine br_f (by decide) ?_
          refine Exists.intro (1) (And.intro ⟨rfl, by decide, by omega⟩ ?_)
          refine br_f (show ¬ tel σ 2 52 1 = 0 from b1) ?_
          refine Exists.intro (1) (And.intro ⟨rfl, by decide, by omega⟩ ?_)
          refine br_f (show ¬ tel σ 2 52 1 = 0 from b2) ?_
          refine Exists.intro (1) (And.intro ⟨rfl, by decide, by omega⟩ ?_)
          refine Exists.intro (1) (And.intro ⟨rfl, by decide, by omega⟩ ?_)
          refine br_f (show ¬ tel σ 2 52 1 = tel σ 2 52 1 from bb) ?_
          refine cl (ct_finds (w := 2) (by decide) fd2 _) ?_
          exact And.intro rfl rfl

theorem P_copy_1_2 {σ : Sg} (h : J σ) (f u n : Int32) : Pair mX4_copy mX5_copy [.int (nI 1), .int f, .int (nI 2), .int u, .int n] σ := by
  obtain ⟨ls, l1, s2, s3, s1, sb, sn⟩ := J_sh h 1 (by decide)
  obtain ⟨lt, l2, t2, t3, t1, tb, tn⟩ := J_sh h 2 (by decide)
  have s2 : σ 37 2 = nI ls := s2
  have s1 : σ 37 1 = σ 52 1 := s1
  have t2 : σ 39 2 = nI lt := t2
  have t1 : σ 39 1 = σ 52 2 := t1
  by_cases b1 : σ 52 1 = 0
  · refine Pair_fd h 5 ?_ ?_
    · refine Ct.of (by decide +kernel) zX4_copy (Nat.le_of_ble_eq_true rfl) (by decide) (fun X go => ?_)
      refine go.1 [] 100 _ _ _ _ ?_
      refine cl (isSh (b := true) rfl _) ?_
      refine br_f (by decide) ?_
      refine cl (isSh (b := true) rfl _) ?_
      refine br_f (by decide) ?_
      refine Exists.intro (1) (And.intro ⟨rfl, by decide, by omega⟩ ?_)
      refine Exists.intro (2) (And.intro ⟨rfl, by decide, by omega⟩ ?_)
      refine br_t (s1.trans b1) ?_
      refine cl (ct_fd (w := 5) (by decide) rfl _) ?_
      exact And.intro rfl rfl
    · refine Ct.of (by decide +kernel) zX5_copy (Nat.le_of_ble_eq_true rfl) (by decide) (fun X go => ?_)
      refine go.1 [] 100 _ _ _ _ ?_
      refine cl (isOM (b := true) rfl _) ?_
      refine br_f (by decide) ?_
      refine cl (isOM (b := true) rfl _) ?_
      refine br_f (by decide) ?_
      refine Exists.intro (1) (And.intro ⟨rfl, by decide, by omega⟩ ?_)
      refine br_t (show tel σ 5 52 1 = 0 from b1) ?_
      refine cl (ct_finds (w := 5) (by decide) fd5 _) ?_
      exact And.intro rfl rfl
  · by_cases b2 : σ 52 2 = 0
    · refine Pair_fd h 5 ?_ ?_
      · refine Ct.of (by decide +kernel) zX4_copy (Nat.le_of_ble_eq_true rfl) (by decide) (fun X go => ?_)
        refine go.1 [] 100 _ _ _ _ ?_
        refine cl (isSh (b := true) rfl _) ?_
        refine br_f (by decide) ?_
        refine cl (isSh (b := true) rfl _) ?_
        refine br_f (by decide) ?_
        refine Exists.intro (1) (And.intro ⟨rfl, by decide, by omega⟩ ?_)
        refine Exists.intro (2) (And.intro ⟨rfl, by decide, by omega⟩ ?_)
        refine br_f (fun q => b1 (s1.symm.trans q)) ?_
        refine br_t (t1.trans b2) ?_
        refine cl (ct_fd (w := 5) (by decide) rfl _) ?_
        exact And.intro rfl rfl
      · refine Ct.of (by decide +kernel) zX5_copy (Nat.le_of_ble_eq_true rfl) (by decide) (fun X go => ?_)
        refine go.1 [] 100 _ _ _ _ ?_
        refine cl (isOM (b := true) rfl _) ?_
        refine br_f (by decide) ?_
        refine cl (isOM (b := true) rfl _) ?_
        refine br_f (by decide) ?_
        refine Exists.intro (1) (And.intro ⟨rfl, by decide, by omega⟩ ?_)
        refine br_f (show ¬ tel σ 5 52 1 = 0 from b1) ?_
        refine Exists.intro (2) (And.intro ⟨rfl, by decide, by omega⟩ ?_)
        refine br_t (show tel σ 5 52 2 = 0 from b2) ?_
        refine cl (ct_finds (w := 5) (by decide) fd5 _) ?_
        exact And.intro rfl rfl
    · by_cases bb : σ 52 1 = σ 52 2
      · by_cases hp : ptO ls lt f u n
        · obtain ⟨⟨f0, n0, fn⟩, ⟨u0, -, un⟩⟩ := hp
          have hp1 : (0 ≤ f.toInt ∧ 0 ≤ n.toInt ∧ n.toInt ≤ (ls : Int) - f.toInt) := ⟨f0, n0, fn⟩
          have hp2 : (0 ≤ u.toInt ∧ 0 ≤ n.toInt ∧ n.toInt ≤ (lt : Int) - u.toInt) := ⟨u0, n0, un⟩
          obtain ⟨a, ea, rfl⟩ : ∃ a : Nat, f.toInt = a ∧ f = nI a := ⟨f.toInt.toNat, by omega, nI_of_toInt (by omega) (by omega)⟩
          obtain ⟨b, eb, rfl⟩ : ∃ a : Nat, u.toInt = a ∧ u = nI a := ⟨u.toInt.toNat, by omega, nI_of_toInt (by omega) (by omega)⟩
          obtain ⟨c, ec, rfl⟩ : ∃ a : Nat, n.toInt = a ∧ n = nI a := ⟨n.toInt.toNat, by omega, nI_of_toInt (by omega) (by omega)⟩
          have k1 : a + c ≤ ls := by omega
          have k2 : b + c ≤ lt := by omega
          refine ⟨nI c, upr σ 40 (va_cpy (σ 38) (σ 40) a b c), _, ?_, ctm_copy (s := 1) (t := 2) (σ := upr σ 40 (va_cpy (σ 38) (σ 40) a b c)) (by decide) (by decide) b1 b2 bb l1 l2 s3 t3 k1 k2, J_copy h (s := 1) (t := 2) (by decide) (by decide) l1 l2 k1 k2⟩
          refine Ct.of (by decide +kernel) zX4_copy (Nat.le_of_ble_eq_true rfl) (by decide) (fun X go => ?_)
          refine go.1 [] 100 _ _ _ _ ?_
          refine cl (isSh (b := true) rfl _) ?_
          refine br_f (by decide) ?_
          refine cl (isSh (b := true) rfl _) ?_
          refine br_f (by decide) ?_
          refine Exists.intro (1) (And.intro ⟨rfl, by decide, by omega⟩ ?_)
          refine Exists.intro (2) (And.intro ⟨rfl, by decide, by omega⟩ ?_)
          refine br_f (fun q => b1 (s1.symm.trans q)) ?_
          refine br_f (fun q => b2 (t1.symm.trans q)) ?_
          refine br_t ((s1.trans bb).trans t1.symm) ?_
          refine cl (ct_hasPart_1 l1 s2 (nI a) (nI c)) ?_
          rw [dec_t hp1]
          refine br_f (by decide) ?_
          refine cl (ct_hasPart_2 l2 t2 (nI b) (nI c)) ?_
          rw [dec_t hp2]
          refine br_f (by decide) ?_
          refine Exists.intro a (Exists.intro b (Exists.intro c (And.intro ⟨rfl, rfl, rfl, by omega, by omega, by omega, by omega, by omega⟩ ?_)))
          exact And.intro rfl rfl
        · refine Pair_fd h 0 ?_ (ctm_copy_bad (s := 1) (t := 2) (σ := tel σ 0) (by decide) (by decide) b1 b2 bb l1 l2 s3 t3 hp)
          unfold ptO at hp
          refine Ct.of (by decide +kernel) zX4_copy (Nat.le_of_ble_eq_true rfl) (by decide) (fun X go => ?_)
          refine go.1 [] 100 _ _ _ _ ?_
          refine cl (isSh (b := true) rfl _) ?_
          refine br_f (by decide) ?_
          refine cl (isSh (b := true) rfl _) ?_
          refine br_f (by decide) ?_
          refine Exists.intro (1) (And.intro ⟨rfl, by decide, by omega⟩ ?_)
          refine Exists.intro (2) (And.intro ⟨rfl, by decide, by omega⟩ ?_)
          refine br_f (fun q => b1 (s1.symm.trans q)) ?_
          refine br_f (fun q => b2 (t1.symm.trans q)) ?_
          refine br_t ((s1.trans bb).trans t1.symm) ?_
          refine cl (ct_hasPart_1 l1 s2 f n) ?_
          by_cases p1 : (0 ≤ f.toInt ∧ 0 ≤ n.toInt ∧ n.toInt ≤ (ls : Int) - f.toInt)
          · rw [dec_t p1]
            refine br_f (by decide) ?_
            refine cl (ct_hasPart_2 l2 t2 u n) ?_
            rw [dec_f (fun p2 => hp ⟨p1, p2⟩)]
            refine br_t (by decide) ?_
            refine cl (ct_fd (w := 0) (by decide) rfl _) ?_
            exact And.intro rfl rfl
          · rw [dec_f p1]
            refine br_t (by decide) ?_
            refine cl (ct_fd (w := 0) (by decide) rfl _) ?_
            exact And.intro rfl rfl
      · refine Pair_fd h 2 ?_ ?_
        · refine Ct.of (by decide +kernel) zX4_copy (Nat.le_of_ble_eq_true rfl) (by decide) (fun X go => ?_)
          refine go.1 [] 100 _ _ _ _ ?_
          refine cl (isSh (b := true) rfl _) ?_
          refine br_f (by decide) ?_
          refine cl (isSh (b := true) rfl _) ?_
          refine br_f (by decide) ?_
          refine Exists.intro (1) (And.intro ⟨rfl, by decide, by omega⟩ ?_)
          refine Exists.intro (2) (And.intro ⟨rfl, by decide, by omega⟩ ?_)
          refine br_f (fun q => b1 (s1.symm.trans q)) ?_
          refine br_f (fun q => b2 (t1.symm.trans q)) ?_
          refine br_f (fun q => bb ((s1.symm.trans q).trans t1)) ?_
          refine cl (ct_fd (w := 2) (by decide) rfl _) ?_
          exact And.intro rfl rfl
        · refine Ct.of (by decide +kernel) zX5_copy (Nat.le_of_ble_eq_true rfl) (by decide) (fun X go => ?_)
          refine go.1 [] 100 _ _ _ _ ?_
          refine cl (isOM (b := true) rfl _) ?_
          refine br_f (by decide) ?_
          refine cl (isOM (b := true) rfl _) ?_
          refine br_f (by decide) ?_
          refine Exists.intro (1) (And.intro ⟨rfl, by decide, by omega⟩ ?_)
          refine br_f (show ¬ tel σ 2 52 1 = 0 from b1) ?_
          refine Exists.intro (2) (And.intro ⟨rfl, by decide, by omega⟩ ?_)
          refine br_f (show ¬ tel σ 2 52 2 = 0 from b2) ?_
          refine Exists.intro (1) (And.intro ⟨rfl, by decide, by omega⟩ ?_)
          refine Exists.intro (2) (And.intro ⟨rfl, by decide, by omega⟩ ?_)
          refine br_f (show ¬ tel σ 2 52 1 = tel σ 2 52 2 from bb) ?_
          refine cl (ct_finds (w := 2) (by decide) fd2 _) ?_
          exact And.intro rfl rfl

theorem P_copy_1_3 {σ : Sg} (h : J σ) (f u n : Int32) : Pair mX4_copy mX5_copy [.int (nI 1), .int f, .int (nI 3), .int u, .int n] σ := by
  obtain ⟨ls, l1, s2, s3, s1, sb, sn⟩ := J_sh h 1 (by decide)
  obtain ⟨lt, l2, t2, t3, t1, tb, tn⟩ := J_sh h 3 (by decide)
  have s2 : σ 37 2 = nI ls := s2
  have s1 : σ 37 1 = σ 52 1 := s1
  have t2 : σ 41 2 = nI lt := t2
  have t1 : σ 41 1 = σ 52 3 := t1
  by_cases b1 : σ 52 1 = 0
  · refine Pair_fd h 5 ?_ ?_
    · refine Ct.of (by decide +kernel) zX4_copy (Nat.le_of_ble_eq_true rfl) (by decide) (fun X go => ?_)
      refine go.1 [] 100 _ _ _ _ ?_
      refine cl (isSh (b := true) rfl _) ?_
      refine br_f (by decide) ?_
      refine cl (isSh (b := true) rfl _) ?_
      refine br_f (by decide) ?_
      refine Exists.intro (1) (And.intro ⟨rfl, by decide, by omega⟩ ?_)
      refine Exists.intro (3) (And.intro ⟨rfl, by decide, by omega⟩ ?_)
      refine br_t (s1.trans b1) ?_
      refine cl (ct_fd (w := 5) (by decide) rfl _) ?_
      exact And.intro rfl rfl
    · refine Ct.of (by decide +kernel) zX5_copy (Nat.le_of_ble_eq_true rfl) (by decide) (fun X go => ?_)
      refine go.1 [] 100 _ _ _ _ ?_
      refine cl (isOM (b := true) rfl _) ?_
      refine br_f (by decide) ?_
      refine cl (isOM (b := true) rfl _) ?_
      refine br_f (by decide) ?_
      refine Exists.intro (1) (And.intro ⟨rfl, by decide, by omega⟩ ?_)
      refine br_t (show tel σ 5 52 1 = 0 from b1) ?_
      refine cl (ct_finds (w := 5) (by decide) fd5 _) ?_
      exact And.intro rfl rfl
  · by_cases b2 : σ 52 3 = 0
    · refine Pair_fd h 5 ?_ ?_
      · refine Ct.of (by decide +kernel) zX4_copy (Nat.le_of_ble_eq_true rfl) (by decide) (fun X go => ?_)
        refine go.1 [] 100 _ _ _ _ ?_
        refine cl (isSh (b := true) rfl _) ?_
        refine br_f (by decide) ?_
        refine cl (isSh (b := true) rfl _) ?_
        refine br_f (by decide) ?_
        refine Exists.intro (1) (And.intro ⟨rfl, by decide, by omega⟩ ?_)
        refine Exists.intro (3) (And.intro ⟨rfl, by decide, by omega⟩ ?_)
        refine br_f (fun q => b1 (s1.symm.trans q)) ?_
        refine br_t (t1.trans b2) ?_
        refine cl (ct_fd (w := 5) (by decide) rfl _) ?_
        exact And.intro rfl rfl
      · refine Ct.of (by decide +kernel) zX5_copy (Nat.le_of_ble_eq_true rfl) (by decide) (fun X go => ?_)
        refine go.1 [] 100 _ _ _ _ ?_
        refine cl (isOM (b := true) rfl _) ?_
        refine br_f (by decide) ?_
        refine cl (isOM (b := true) rfl _) ?_
        refine br_f (by decide) ?_
        refine Exists.intro (1) (And.intro ⟨rfl, by decide, by omega⟩ ?_)
        refine br_f (show ¬ tel σ 5 52 1 = 0 from b1) ?_
        refine Exists.intro (3) (And.intro ⟨rfl, by decide, by omega⟩ ?_)
        refine br_t (show tel σ 5 52 3 = 0 from b2) ?_
        refine cl (ct_finds (w := 5) (by decide) fd5 _) ?_
        exact And.intro rfl rfl
    · by_cases bb : σ 52 1 = σ 52 3
      · by_cases hp : ptO ls lt f u n
        · obtain ⟨⟨f0, n0, fn⟩, ⟨u0, -, un⟩⟩ := hp
          have hp1 : (0 ≤ f.toInt ∧ 0 ≤ n.toInt ∧ n.toInt ≤ (ls : Int) - f.toInt) := ⟨f0, n0, fn⟩
          have hp2 : (0 ≤ u.toInt ∧ 0 ≤ n.toInt ∧ n.toInt ≤ (lt : Int) - u.toInt) := ⟨u0, n0, un⟩
          obtain ⟨a, ea, rfl⟩ : ∃ a : Nat, f.toInt = a ∧ f = nI a := ⟨f.toInt.toNat, by omega, nI_of_toInt (by omega) (by omega)⟩
          obtain ⟨b, eb, rfl⟩ : ∃ a : Nat, u.toInt = a ∧ u = nI a := ⟨u.toInt.toNat, by omega, nI_of_toInt (by omega) (by omega)⟩
          obtain ⟨c, ec, rfl⟩ : ∃ a : Nat, n.toInt = a ∧ n = nI a := ⟨n.toInt.toNat, by omega, nI_of_toInt (by omega) (by omega)⟩
          have k1 : a + c ≤ ls := by omega
          have k2 : b + c ≤ lt := by omega
          refine ⟨nI c, upr σ 42 (va_cpy (σ 38) (σ 42) a b c), _, ?_, ctm_copy (s := 1) (t := 3) (σ := upr σ 42 (va_cpy (σ 38) (σ 42) a b c)) (by decide) (by decide) b1 b2 bb l1 l2 s3 t3 k1 k2, J_copy h (s := 1) (t := 3) (by decide) (by decide) l1 l2 k1 k2⟩
          refine Ct.of (by decide +kernel) zX4_copy (Nat.le_of_ble_eq_true rfl) (by decide) (fun X go => ?_)
          refine go.1 [] 100 _ _ _ _ ?_
          refine cl (isSh (b := true) rfl _) ?_
          refine br_f (by decide) ?_
          refine cl (isSh (b := true) rfl _) ?_
          refine br_f (by decide) ?_
          refine Exists.intro (1) (And.intro ⟨rfl, by decide, by omega⟩ ?_)
          refine Exists.intro (3) (And.intro ⟨rfl, by decide, by omega⟩ ?_)
          refine br_f (fun q => b1 (s1.symm.trans q)) ?_
          refine br_f (fun q => b2 (t1.symm.trans q)) ?_
          refine br_t ((s1.trans bb).trans t1.symm) ?_
          refine cl (ct_hasPart_1 l1 s2 (nI a) (nI c)) ?_
          rw [dec_t hp1]
          refine br_f (by decide) ?_
          refine cl (ct_hasPart_3 l2 t2 (nI b) (nI c)) ?_
          rw [dec_t hp2]
          refine br_f (by decide) ?_
          refine Exists.intro a (Exists.intro b (Exists.intro c (And.intro ⟨rfl, rfl, rfl, by omega, by omega, by omega, by omega, by omega⟩ ?_)))
          exact And.intro rfl rfl
        · refine Pair_fd h 0 ?_ (ctm_copy_bad (s := 1) (t := 3) (σ := tel σ 0) (by decide) (by decide) b1 b2 bb l1 l2 s3 t3 hp)
          unfold ptO at hp
          refine Ct.of (by decide +kernel) zX4_copy (Nat.le_of_ble_eq_true rfl) (by decide) (fun X go => ?_)
          refine go.1 [] 100 _ _ _ _ ?_
          refine cl (isSh (b := true) rfl _) ?_
          refine br_f (by decide) ?_
          refine cl (isSh (b := true) rfl _) ?_
          refine br_f (by decide) ?_
          refine Exists.intro (1) (And.intro ⟨rfl, by decide, by omega⟩ ?_)
          refine Exists.intro (3) (And.intro ⟨rfl, by decide, by omega⟩ ?_)
          refine br_f (fun q => b1 (s1.symm.trans q)) ?_
          refine br_f (fun q => b2 (t1.symm.trans q)) ?_
          refine br_t ((s1.trans bb).trans t1.symm) ?_
          refine cl (ct_hasPart_1 l1 s2 f n) ?_
          by_cases p1 : (0 ≤ f.toInt ∧ 0 ≤ n.toInt ∧ n.toInt ≤ (ls : Int) - f.toInt)
          · rw [dec_t p1]
            refine br_f (by decide) ?_
            refine cl (ct_hasPart_3 l2 t2 u n) ?_
            rw [dec_f (fun p2 => hp ⟨p1, p2⟩)]
            refine br_t (by decide) ?_
            refine cl (ct_fd (w := 0) (by decide) rfl _) ?_
            exact And.intro rfl rfl
          · rw [dec_f p1]
            refine br_t (by decide) ?_
            refine cl (ct_fd (w := 0) (by decide) rfl _) ?_
            exact And.intro rfl rfl
      · refine Pair_fd h 2 ?_ ?_
        · refine Ct.of (by decide +kernel) zX4_copy (Nat.le_of_ble_eq_true rfl) (by decide) (fun X go => ?_)
          refine go.1 [] 100 _ _ _ _ ?_
          refine cl (isSh (b := true) rfl _) ?_
          refine br_f (by decide) ?_
          refine cl (isSh (b := true) rfl _) ?_
          refine br_f (by decide) ?_
          refine Exists.intro (1) (And.intro ⟨rfl, by decide, by omega⟩ ?_)
          refine Exists.intro (3) (And.intro ⟨rfl, by decide, by omega⟩ ?_)
          refine br_f (fun q => b1 (s1.symm.trans q)) ?_
          refine br_f (fun q => b2 (t1.symm.trans q)) ?_
          refine br_f (fun q => bb ((s1.symm.trans q).trans t1)) ?_
          refine cl (ct_fd (w := 2) (by decide) rfl _) ?_
          exact And.intro rfl rfl
        · refine Ct.of (by decide +kernel) zX5_copy (Nat.le_of_ble_eq_true rfl) (by decide) (fun X go => ?_)
          refine go.1 [] 100 _ _ _ _ ?_
          refine cl (isOM (b := true) rfl _) ?_
          refine br_f (by decide) ?_
          refine cl (isOM (b := true) rfl _) ?_
          refine br_f (by decide) ?_
          refine Exists.intro (1) (And.intro ⟨rfl, by decide, by omega⟩ ?_)
          refine br_f (show ¬ tel σ 2 52 1 = 0 from b1) ?_
          refine Exists.intro (3) (And.intro ⟨rfl, by decide, by omega⟩ ?_)
          refine br_f (show ¬ tel σ 2 52 3 = 0 from b2) ?_
          refine Exists.intro (1) (And.intro ⟨rfl, by decide, by omega⟩ ?_)
          refine Exists.intro (3) (And.intro ⟨rfl, by decide, by omega⟩ ?_)
          refine br_f (show ¬ tel σ 2 52 1 = tel σ 2 52 3 from bb) ?_
          refine cl (ct_finds (w := 2) (by decide) fd2 _) ?_
          exact And.intro rfl rfl

theorem P_copy_2_0 {σ : Sg} (h : J σ) (f u n : Int32) : Pair mX4_copy mX5_copy [.int (nI 2), .int f, .int (nI 0), .int u, .int n] σ := by
  obtain ⟨ls, l1, s2, s3, s1, sb, sn⟩ := J_sh h 2 (by decide)
  obtain ⟨lt, l2, t2, t3, t1, tb, tn⟩ := J_sh h 0 (by decide)
  have s2 : σ 39 2 = nI ls := s2
  have s1 : σ 39 1 = σ 52 2 := s1
  have t2 : σ 35 2 = nI lt := t2
  have t1 : σ 35 1 = σ 52 0 := t1
  by_cases b1 : σ 52 2 = 0
  · refine Pair_fd h 5 ?_ ?_
    · refine Ct.of (by decide +kernel) zX4_copy (Nat.le_of_ble_eq_true rfl) (by decide) (fun X go => ?_)
      refine go.1 [] 100 _ _ _ _ ?_
      refine cl (isSh (b := true) rfl _) ?_
      refine br_f (by decide) ?_
      refine cl (isSh (b := true) rfl _) ?_
      refine br_f (by decide) ?_
      refine Exists.intro (2) (And.intro ⟨rfl, by decide, by omega⟩ ?_)
      refine Exists.intro (0) (And.intro ⟨rfl, by decide, by omega⟩ ?_)
      refine br_t (s1.trans b1) ?_
      refine cl (ct_fd (w := 5) (by decide) rfl _) ?_
      exact And.intro rfl rfl
    · refine Ct.of (by decide +kernel) zX5_copy (Nat.le_of_ble_eq_true rfl) (by decide) (fun X go => ?_)
      refine go.1 [] 100 _ _ _ _ ?_
      refine cl (isOM (b := true) rfl _) ?_
      refine br_f (by decide) ?_
      refine cl (isOM (b := true) rfl _) ?_
      refine br_f (by decide) ?_
      refine Exists.intro (2) (And.intro ⟨rfl, by decide, by omega⟩ ?_)
      refine br_t (show tel σ 5 52 2 = 0 from b1) ?_
      refine cl (ct_finds (w := 5) (by decide) fd5 _) ?_
      exact And.intro rfl rfl
  · by_cases b2 : σ 52 0 = 0
    · refine Pair_fd h 5 ?_ ?_
      · refine Ct.of (by decide +kernel) zX4_copy (Nat.le_of_ble_eq_true rfl) (by decide) (fun X go => ?_)
        refine go.1 [] 100 _ _ _ _ ?_
        refine cl (isSh (b := true) rfl _) ?_
        refine br_f (by decide) ?_
        refine cl (isSh (b := true) rfl _) ?_
        refine br_f (by decide) ?_
        refine Exists.intro (2) (And.intro ⟨rfl, by decide, by omega⟩ ?_)
        refine Exists.intro (0) (And.intro ⟨rfl, by decide, by omega⟩ ?_)
        refine br_f (fun q => b1 (s1.symm.trans q)) ?_
        refine br_t (t1.trans b2) ?_
        refine cl (ct_fd (w := 5) (by decide) rfl _) ?_
        exact And.intro rfl rfl
      · refine Ct.of (by decide +kernel) zX5_copy (Nat.le_of_ble_eq_true rfl) (by decide) (fun X go => ?_)
        refine go.1 [] 100 _ _ _ _ ?_
        refine cl (isOM (b := true) rfl _) ?_
        refine br_f (by decide) ?_
        refine cl (isOM (b := true) rfl _) ?_
        refine br_f (by decide) ?_
        refine Exists.intro (2) (And.intro ⟨rfl, by decide, by omega⟩ ?_)
        refine br_f (show ¬ tel σ 5 52 2 = 0 from b1) ?_
        refine Exists.intro (0) (And.intro ⟨rfl, by decide, by omega⟩ ?_)
        refine br_t (show tel σ 5 52 0 = 0 from b2) ?_
        refine cl (ct_finds (w := 5) (by decide) fd5 _) ?_
        exact And.intro rfl rfl
    · by_cases bb : σ 52 2 = σ 52 0
      · by_cases hp : ptO ls lt f u n
        · obtain ⟨⟨f0, n0, fn⟩, ⟨u0, -, un⟩⟩ := hp
          have hp1 : (0 ≤ f.toInt ∧ 0 ≤ n.toInt ∧ n.toInt ≤ (ls : Int) - f.toInt) := ⟨f0, n0, fn⟩
          have hp2 : (0 ≤ u.toInt ∧ 0 ≤ n.toInt ∧ n.toInt ≤ (lt : Int) - u.toInt) := ⟨u0, n0, un⟩
          obtain ⟨a, ea, rfl⟩ : ∃ a : Nat, f.toInt = a ∧ f = nI a := ⟨f.toInt.toNat, by omega, nI_of_toInt (by omega) (by omega)⟩
          obtain ⟨b, eb, rfl⟩ : ∃ a : Nat, u.toInt = a ∧ u = nI a := ⟨u.toInt.toNat, by omega, nI_of_toInt (by omega) (by omega)⟩
          obtain ⟨c, ec, rfl⟩ : ∃ a : Nat, n.toInt = a ∧ n = nI a := ⟨n.toInt.toNat, by omega, nI_of_toInt (by omega) (by omega)⟩
          have k1 : a + c ≤ ls := by omega
          have k2 : b + c ≤ lt := by omega
          refine ⟨nI c, upr σ 36 (va_cpy (σ 40) (σ 36) a b c), _, ?_, ctm_copy (s := 2) (t := 0) (σ := upr σ 36 (va_cpy (σ 40) (σ 36) a b c)) (by decide) (by decide) b1 b2 bb l1 l2 s3 t3 k1 k2, J_copy h (s := 2) (t := 0) (by decide) (by decide) l1 l2 k1 k2⟩
          refine Ct.of (by decide +kernel) zX4_copy (Nat.le_of_ble_eq_true rfl) (by decide) (fun X go => ?_)
          refine go.1 [] 100 _ _ _ _ ?_
          refine cl (isSh (b := true) rfl _) ?_
          refine br_f (by decide) ?_
          refine cl (isSh (b := true) rfl _) ?_
          refine br_f (by decide) ?_
          refine Exists.intro (2) (And.intro ⟨rfl, by decide, by omega⟩ ?_)
          refine Exists.intro (0) (And.intro ⟨rfl, by decide, by omega⟩ ?_)
          refine br_f (fun q => b1 (s1.symm.trans q)) ?_
          refine br_f (fun q => b2 (t1.symm.trans q)) ?_
          refine br_t ((s1.trans bb).trans t1.symm) ?_
          refine cl (ct_hasPart_2 l1 s2 (nI a) (nI c)) ?_
          rw [dec_t hp1]
          refine br_f (by decide) ?_
          refine cl (ct_hasPart_0 l2 t2 (nI b) (nI c)) ?_
          rw [dec_t hp2]
          refine br_f (by decide) ?_
          refine Exists.intro a (Exists.intro b (Exists.intro c (And.intro ⟨rfl, rfl, rfl, by omega, by omega, by omega, by omega, by omega⟩ ?_)))
          exact And.intro rfl rfl
        · refine Pair_fd h 0 ?_ (ctm_copy_bad (s := 2) (t := 0) (σ := tel σ 0) (by decide) (by decide) b1 b2 bb l1 l2 s3 t3 hp)
          unfold ptO at hp
          refine Ct.of (by decide +kernel) zX4_copy (Nat.le_of_ble_eq_true rfl) (by decide) (fun X go => ?_)
          refine go.1 [] 100 _ _ _ _ ?_
          refine cl (isSh (b := true) rfl _) ?_
          refine br_f (by decide) ?_
          refine cl (isSh (b := true) rfl _) ?_
          refine br_f (by decide) ?_
          refine Exists.intro (2) (And.intro ⟨rfl, by decide, by omega⟩ ?_)
          refine Exists.intro (0) (And.intro ⟨rfl, by decide, by omega⟩ ?_)
          refine br_f (fun q => b1 (s1.symm.trans q)) ?_
          refine br_f (fun q => b2 (t1.symm.trans q)) ?_
          refine br_t ((s1.trans bb).trans t1.symm) ?_
          refine cl (ct_hasPart_2 l1 s2 f n) ?_
          by_cases p1 : (0 ≤ f.toInt ∧ 0 ≤ n.toInt ∧ n.toInt ≤ (ls : Int) - f.toInt)
          · rw [dec_t p1]
            refine br_f (by decide) ?_
            refine cl (ct_hasPart_0 l2 t2 u n) ?_
            rw [dec_f (fun p2 => hp ⟨p1, p2⟩)]
            refine br_t (by decide) ?_
            refine cl (ct_fd (w := 0) (by decide) rfl _) ?_
            exact And.intro rfl rfl
          · rw [dec_f p1]
            refine br_t (by decide) ?_
            refine cl (ct_fd (w := 0) (by decide) rfl _) ?_
            exact And.intro rfl rfl
      · refine Pair_fd h 2 ?_ ?_
        · refine Ct.of (by decide +kernel) zX4_copy (Nat.le_of_ble_eq_true rfl) (by decide) (fun X go => ?_)
          refine go.1 [] 100 _ _ _ _ ?_
          refine cl (isSh (b := true) rfl _) ?_
          refine br_f (by decide) ?_
          refine cl (isSh (b := true) rfl _) ?_
          refine br_f (by decide) ?_
          refine Exists.intro (2) (And.intro ⟨rfl, by decide, by omega⟩ ?_)
          refine Exists.intro (0) (And.intro ⟨rfl, by decide, by omega⟩ ?_)
          refine br_f (fun q => b1 (s1.symm.trans q)) ?_
          refine br_f (fun q => b2 (t1.symm.trans q)) ?_
          refine br_f (fun q => bb ((s1.symm.trans q).trans t1)) ?_
          refine cl (ct_fd (w := 2) (by decide) rfl _) ?_
          exact And.intro rfl rfl
        · refine Ct.of (by decide +kernel) zX5_copy (Nat.le_of_ble_eq_true rfl) (by decide) (fun X go => ?_)
          refine go.1 [] 100 _ _ _ _ ?_
          refine cl (isOM (b := true) rfl _) ?_
          refine br_f (by decide) ?_
          refine cl (isOM (b := true) rfl _) ?_
          refine br_f (by decide) ?_
          refine Exists.intro (2) (And.intro ⟨rfl, by decide, by omega⟩ ?_)
          refine br_f (show ¬ tel σ 2 52 2 = 0 from b1) ?_
          refine Exists.intro (0) (And.intro ⟨rfl, by decide, by omega⟩ ?_)
          refine br_f (show ¬ tel σ 2 52 0 = 0 from b2) ?_
          refine Exists.intro (2) (And.intro ⟨rfl, by decide, by omega⟩ ?_)
          refine Exists.intro (0) (And.intro ⟨rfl, by decide, by omega⟩ ?_)
          refine br_f (show ¬ tel σ 2 52 2 = tel σ 2 52 0 from bb) ?_
          refine cl (ct_finds (w := 2) (by decide) fd2 _) ?_
          exact And.intro rfl rfl

theorem P_copy_2_1 {σ : Sg} (h : J σ) (f u n : Int32) : Pair mX4_copy mX5_copy [.int (nI 2), .int f, .int (nI 1), .int u, .int n] σ := by
  obtain ⟨ls, l1, s2, s3, s1, sb, sn⟩ := J_sh h 2 (by decide)
  obtain ⟨lt, l2, t2, t3, t1, tb, tn⟩ := J_sh h 1 (by decide)
  have s2 : σ 39 2 = nI ls := s2
  have s1 : σ 39 1 = σ 52 2 := s1
  have t2 : σ 37 2 = nI lt := t2
  have t1 : σ 37 1 = σ 52 1 := t1
  by_cases b1 : σ 52 2 = 0
  · refine Pair_fd h 5 ?_ ?_
    · refine Ct.of (by decide +kernel) zX4_copy (Nat.le_of_ble_eq_true rfl) (by decide) (fun X go => ?_)
      refine go.1 [] 100 _ _ _ _ ?_
      refine cl (isSh (b := true) rfl _) ?_
      refine br_f (by decide) ?_
      refine cl (isSh (b := true) rfl _) ?_
      refine br_f (by decide) ?_
      refine Exists.intro (2) (And.intro ⟨rfl, by decide, by omega⟩ ?_)
      refine Exists.intro (1) (And.intro ⟨rfl, by decide, by omega⟩ ?_)
      refine br_t (s1.trans b1) ?_
      refine cl (ct_fd (w := 5) (by decide) rfl _) ?_
      exact And.intro rfl rfl
    · refine Ct.of (by decide +kernel) zX5_copy (Nat.le_of_ble_eq_true rfl) (by decide) (fun X go => ?_)
      refine go.1 [] 100 _ _ _ _ ?_
      refine cl (isOM (b := true) rfl _) ?_
      refine br_f (by decide) ?_
      refine cl (isOM (b := true) rfl _) ?_
      refine br_f (by decide) ?_
      refine Exists.intro (2) (And.intro ⟨rfl, by decide, by omega⟩ ?_)
      refine br_t (show tel σ 5 52 2 = 0 from b1) ?_
      refine cl (ct_finds (w := 5) (by decide) fd5 _) ?_
      exact And.intro rfl rfl
  · by_cases b2 : σ 52 1 = 0
    · refine Pair_fd h 5 ?_ ?_
      · refine Ct.of (by decide +kernel) zX4_copy (Nat.le_of_ble_eq_true rfl) (by decide) (fun X go => ?_)
        refine go.1 [] 100 _ _ _ _ ?_
        refine cl (isSh (b := true) rfl _) ?_
        refine br_f (by decide) ?_
        refine cl (isSh (b := true) rfl _) ?_
        refine br_f (by decide) ?_
        refine Exists.intro (2) (And.intro ⟨rfl, by decide, by omega⟩ ?_)
        refine Exists.intro (1) (And.intro ⟨rfl, by decide, by omega⟩ ?_)
        refine br_f (fun q => b1 (s1.symm.trans q)) ?_
        refine br_t (t1.trans b2) ?_
        refine cl (ct_fd (w := 5) (by decide) rfl _) ?_
        exact And.intro rfl rfl
      · refine Ct.of (by decide +kernel) zX5_copy (Nat.le_of_ble_eq_true rfl) (by decide) (fun X go => ?_)
        refine go.1 [] 100 _ _ _ _ ?_
        refine cl (isOM (b := true) rfl _) ?_
        refine br_f (by decide) ?_
        refine cl (isOM (b := true) rfl _) ?_
        refine br_f (by decide) ?_
        refine Exists.intro (2) (And.intro ⟨rfl, by decide, by omega⟩ ?_)
        refine br_f (show ¬ tel σ 5 52 2 = 0 from b1) ?_
        refine Exists.intro (1) (And.intro ⟨rfl, by decide, by omega⟩ ?_)
        refine br_t (show tel σ 5 52 1 = 0 from b2) ?_
        refine cl (ct_finds (w := 5) (by decide) fd5 _) ?_
        exact And.intro rfl rfl
    · by_cases bb : σ 52 2 = σ 52 1
      · by_cases hp : ptO ls lt f u n
        · obtain ⟨⟨f0, n0, fn⟩, ⟨u0, -, un⟩⟩ := hp
          have hp1 : (0 ≤ f.toInt ∧ 0 ≤ n.toInt ∧ n.toInt ≤ (ls : Int) - f.toInt) := ⟨f0, n0, fn⟩
          have hp2 : (0 ≤ u.toInt ∧ 0 ≤ n.toInt ∧ n.toInt ≤ (lt : Int) - u.toInt) := ⟨u0, n0, un⟩
          obtain ⟨a, ea, rfl⟩ : ∃ a : Nat, f.toInt = a ∧ f = nI a := ⟨f.toInt.toNat, by omega, nI_of_toInt (by omega) (by omega)⟩
          obtain ⟨b, eb, rfl⟩ : ∃ a : Nat, u.toInt = a ∧ u = nI a := ⟨u.toInt.toNat, by omega, nI_of_toInt (by omega) (by omega)⟩
          obtain ⟨c, ec, rfl⟩ : ∃ a : Nat, n.toInt = a ∧ n = nI a := ⟨n.toInt.toNat, by omega, nI_of_toInt (by omega) (by omega)⟩
          have k1 : a + c ≤ ls := by omega
          have k2 : b + c ≤ lt := by omega
          refine ⟨nI c, upr σ 38 (va_cpy (σ 40) (σ 38) a b c), _, ?_, ctm_copy (s := 2) (t := 1) (σ := upr σ 38 (va_cpy (σ 40) (σ 38) a b c)) (by decide) (by decide) b1 b2 bb l1 l2 s3 t3 k1 k2, J_copy h (s := 2) (t := 1) (by decide) (by decide) l1 l2 k1 k2⟩
          refine Ct.of (by decide +kernel) zX4_copy (Nat.le_of_ble_eq_true rfl) (by decide) (fun X go => ?_)
          refine go.1 [] 100 _ _ _ _ ?_
          refine cl (isSh (b := true) rfl _) ?_
          refine br_f (by decide) ?_
          refine cl (isSh (b := true) rfl _) ?_
          refine br_f (by decide) ?_
          refine Exists.intro (2) (And.intro ⟨rfl, by decide, by omega⟩ ?_)
          refine Exists.intro (1) (And.intro ⟨rfl, by decide, by omega⟩ ?_)
          refine br_f (fun q => b1 (s1.symm.trans q)) ?_
          refine br_f (fun q => b2 (t1.symm.trans q)) ?_
          refine br_t ((s1.trans bb).trans t1.symm) ?_
          refine cl (ct_hasPart_2 l1 s2 (nI a) (nI c)) ?_
          rw [dec_t hp1]
          refine br_f (by decide) ?_
          refine cl (ct_hasPart_1 l2 t2 (nI b) (nI c)) ?_
          rw [dec_t hp2]
          refine br_f (by decide) ?_
          refine Exists.intro a (Exists.intro b (Exists.intro c (And.intro ⟨rfl, rfl, rfl, by omega, by omega, by omega, by omega, by omega⟩ ?_)))
          exact And.intro rfl rfl
        · refine Pair_fd h 0 ?_ (ctm_copy_bad (s := 2) (t := 1) (σ := tel σ 0) (by decide) (by decide) b1 b2 bb l1 l2 s3 t3 hp)
          unfold ptO at hp
          refine Ct.of (by decide +kernel) zX4_copy (Nat.le_of_ble_eq_true rfl) (by decide) (fun X go => ?_)
          refine go.1 [] 100 _ _ _ _ ?_
          refine cl (isSh (b := true) rfl _) ?_
          refine br_f (by decide) ?_
          refine cl (isSh (b := true) rfl _) ?_
          refine br_f (by decide) ?_
          refine Exists.intro (2) (And.intro ⟨rfl, by decide, by omega⟩ ?_)
          refine Exists.intro (1) (And.intro ⟨rfl, by decide, by omega⟩ ?_)
          refine br_f (fun q => b1 (s1.symm.trans q)) ?_
          refine br_f (fun q => b2 (t1.symm.trans q)) ?_
          refine br_t ((s1.trans bb).trans t1.symm) ?_
          refine cl (ct_hasPart_2 l1 s2 f n) ?_
          by_cases p1 : (0 ≤ f.toInt ∧ 0 ≤ n.toInt ∧ n.toInt ≤ (ls : Int) - f.toInt)
          · rw [dec_t p1]
            refine br_f (by decide) ?_
            refine cl (ct_hasPart_1 l2 t2 u n) ?_
            rw [dec_f (fun p2 => hp ⟨p1, p2⟩)]
            refine br_t (by decide) ?_
            refine cl (ct_fd (w := 0) (by decide) rfl _) ?_
            exact And.intro rfl rfl
          · rw [dec_f p1]
            refine br_t (by decide) ?_
            refine cl (ct_fd (w := 0) (by decide) rfl _) ?_
            exact And.intro rfl rfl
      · refine Pair_fd h 2 ?_ ?_
        · refine Ct.of (by decide +kernel) zX4_copy (Nat.le_of_ble_eq_true rfl) (by decide) (fun X go => ?_)
          refine go.1 [] 100 _ _ _ _ ?_
          refine cl (isSh (b := true) rfl _) ?_
          refine br_f (by decide) ?_
          refine cl (isSh (b := true) rfl _) ?_
          refine br_f (by decide) ?_
          refine Exists.intro (2) (And.intro ⟨rfl, by decide, by omega⟩ ?_)
          refine Exists.intro (1) (And.intro ⟨rfl, by decide, by omega⟩ ?_)
          refine br_f (fun q => b1 (s1.symm.trans q)) ?_
          refine br_f (fun q => b2 (t1.symm.trans q)) ?_
          refine br_f (fun q => bb ((s1.symm.trans q).trans t1)) ?_
          refine cl (ct_fd (w := 2) (by decide) rfl _) ?_
          exact And.intro rfl rfl
        · refine Ct.of (by decide +kernel) zX5_copy (Nat.le_of_ble_eq_true rfl) (by decide) (fun X go => ?_)
          refine go.1 [] 100 _ _ _ _ ?_
          refine cl (isOM (b := true) rfl _) ?_
          refine br_f (by decide) ?_
          refine cl (isOM (b := true) rfl _) ?_
          refine br_f (by decide) ?_
          refine Exists.intro (2) (And.intro ⟨rfl, by decide, by omega⟩ ?_)
          refine br_f (show ¬ tel σ 2 52 2 = 0 from b1) ?_
          refine Exists.intro (1) (And.intro ⟨rfl, by decide, by omega⟩ ?_)
          refine br_f (show ¬ tel σ 2 52 1 = 0 from b2) ?_
          refine Exists.intro (2) (And.intro ⟨rfl, by decide, by omega⟩ ?_)
          refine Exists.intro (1) (And.intro ⟨rfl, by decide, by omega⟩ ?_)
          refine br_f (show ¬ tel σ 2 52 2 = tel σ 2 52 1 from bb) ?_
          refine cl (ct_finds (w := 2) (by decide) fd2 _) ?_
          exact And.intro rfl rfl

theorem P_copy_2_2 {σ : Sg} (h : J σ) (f u n : Int32) : Pair mX4_copy mX5_copy [.int (nI 2), .int f, .int (nI 2), .int u, .int n] σ := by
  obtain ⟨ls, l1, s2, s3, s1, sb, sn⟩ := J_sh h 2 (by decide)
  obtain ⟨lt, l2, t2, t3, t1, tb, tn⟩ := J_sh h 2 (by decide)
  have s2 : σ 39 2 = nI ls := s2
  have s1 : σ 39 1 = σ 52 2 := s1
  have t2 : σ 39 2 = nI lt := t2
  have t1 : σ 39 1 = σ 52 2 := t1
  by_cases b1 : σ 52 2 = 0
  · refine Pair_fd h 5 ?_ ?_
    · refine Ct.of (by decide +kernel) zX4_copy (Nat.le_of_ble_eq_true rfl) (by decide) (fun X go => ?_)
      refine go.1 [] 100 _ _ _ _ ?_
      refine cl (isSh (b := true) rfl _) ?_
      refine br_f (by decide) ?_
      refine cl (isSh (b := true) rfl _) ?_
      refine br_f (by decide) ?_
      refine Exists.intro (2) (And.intro ⟨rfl, by decide, by omega⟩ ?_)
      refine Exists.intro (2) (And.intro ⟨rfl, by decide, by omega⟩ ?_)
      refine br_t (s1.trans b1) ?_
      refine cl (ct_fd (w := 5) (by decide) rfl _) ?_
      exact And.intro rfl rfl
    · refine Ct.of (by decide +kernel) zX5_copy (Nat.le_of_ble_eq_true rfl) (by decide) (fun X go => ?_)
      refine go.1 [] 100 _ _ _ _ ?_
      refine cl (isOM (b := true) rfl _) ?_
      refine br_f (by decide) ?_
      refine cl (isOM (b := true) rfl _) ?_
      refine br_f (by decide) ?_
      refine Exists.intro (2) (And.intro ⟨rfl, by decide, by omega⟩ ?_)
      refine br_t (show tel σ 5 52 2 = 0 from b1) ?_
      refine cl (ct_finds (w := 5) (by decide) fd5 _) ?_
      exact And.intro rfl rfl
  · by_cases b2 : σ 52 2 = 0
    · refine Pair_fd h 5 ?_ ?_
      · refine Ct.of (by decide +kernel) zX4_copy (Nat.le_of_ble_eq_true rfl) (by decide) (fun X go => ?_)
        refine go.1 [] 100 _ _ _ _ ?_
        refine cl (isSh (b := true) rfl _) ?_
        refine br_f (by decide) ?_
        refine cl (isSh (b := true) rfl _) ?_
        refine br_f (by decide) ?_
        refine Exists.intro (2) (And.intro ⟨rfl, by decide, by omega⟩ ?_)
        refine Exists.intro (2) (And.intro ⟨rfl, by decide, by omega⟩ ?_)
        refine br_f (fun q => b1 (s1.symm.trans q)) ?_
        refine br_t (t1.trans b2) ?_
        refine cl (ct_fd (w := 5) (by decide) rfl _) ?_
        exact And.intro rfl rfl
      · refine Ct.of (by decide +kernel) zX5_copy (Nat.le_of_ble_eq_true rfl) (by decide) (fun X go => ?_)
        refine go.1 [] 100 _ _ _ _ ?_
        refine cl (isOM (b := true) rfl _) ?_
        refine br_f (by decide) ?_
        refine cl (isOM (b := true) rfl _) ?_
        refine br_f (by decide) ?_
        refine Exists.intro (2) (And.intro ⟨rfl, by decide, by omega⟩ ?_)
        refine br_f (show ¬ tel σ 5 52 2 = 0 from b1) ?_
        refine Exists.intro (2) (And.intro ⟨rfl, by decide, by omega⟩ ?_)
        refine br_t (show tel σ 5 52 2 = 0 from b2) ?_
        refine cl (ct_finds (w := 5) (by decide) fd5 _) ?_
        exact And.intro rfl rfl
    · by_cases bb : σ 52 2 = σ 52 2
      · by_cases hp : ptO ls lt f u n
        · obtain ⟨⟨f0, n0, fn⟩, ⟨u0, -, un⟩⟩ := hp
          have hp1 : (0 ≤ f.toInt ∧ 0 ≤ n.toInt ∧ n.toInt ≤ (ls : Int) - f.toInt) := ⟨f0, n0, fn⟩
          have hp2 : (0 ≤ u.toInt ∧ 0 ≤ n.toInt ∧ n.toInt ≤ (lt : Int) - u.toInt) := ⟨u0, n0, un⟩
          obtain ⟨a, ea, rfl⟩ : ∃ a : Nat, f.toInt = a ∧ f = nI a := ⟨f.toInt.toNat, by omega, nI_of_toInt (by omega) (by omega)⟩
          obtain ⟨b, eb, rfl⟩ : ∃ a : Nat, u.toInt = a ∧ u = nI a := ⟨u.toInt.toNat, by omega, nI_of_toInt (by omega) (by omega)⟩
          obtain ⟨c, ec, rfl⟩ : ∃ a : Nat, n.toInt = a ∧ n = nI a := ⟨n.toInt.toNat, by omega, nI_of_toInt (by omega) (by omega)⟩
          have k1 : a + c ≤ ls := by omega
          have k2 : b + c ≤ lt := by omega
          refine ⟨nI c, upr σ 40 (va_cpy (σ 40) (σ 40) a b c), _, ?_, ctm_copy (s := 2) (t := 2) (σ := upr σ 40 (va_cpy (σ 40) (σ 40) a b c)) (by decide) (by decide) b1 b2 bb l1 l2 s3 t3 k1 k2, J_copy h (s := 2) (t := 2) (by decide) (by decide) l1 l2 k1 k2⟩
          refine Ct.of (by decide +kernel) zX4_copy (Nat.le_of_ble_eq_true rfl) (by decide) (fun X go => ?_)
          refine go.1 [] 100 _ _ _ _ ?_
          refine cl (isSh (b := true) rfl _) ?_
          refine br_f (by decide) ?_
          refine cl (isSh (b := true) rfl _) ?_
          refine br_f (by decide) ?_
          refine Exists.intro (2) (And.intro ⟨rfl, by decide, by omega⟩ ?_)
          refine Exists.intro (2) (And.intro ⟨rfl, by decide, by omega⟩ ?_)
          refine br_f (fun q => b1 (s1.symm.trans q)) ?_
          refine br_f (fun q => b2 (t1.symm.trans q)) ?_
          refine br_t ((s1.trans bb).trans t1.symm) ?_
          refine cl (ct_hasPart_2 l1 s2 (nI a) (nI c)) ?_
          rw [dec_t hp1]
          refine br_f (by decide) ?_
          refine cl (ct_hasPart_2 l2 t2 (nI b) (nI c)) ?_
          rw [dec_t hp2]
          refine br_f (by decide) ?_
          refine Exists.intro a (Exists.intro b (Exists.intro c (And.intro ⟨rfl, rfl, rfl, by omega, by omega, by omega, by omega, by omega⟩ ?_)))
          exact And.intro rfl rfl
        · refine Pair_fd h 0 ?_ (ctm_copy_bad (s := 2) (t := 2) (σ := tel σ 0) (by decide) (by decide) b1 b2 bb l1 l2 s3 t3 hp)
          unfold ptO at hp
          refine Ct.of (by decide +kernel) zX4_copy (Nat.le_of_ble_eq_true rfl) (by decide) (fun X go => ?_)
          refine go.1 [] 100 _ _ _ _ ?_
          refine cl (isSh (b := true) rfl _) ?_
          refine br_f (by decide) ?_
          refine cl (isSh (b := true) rfl _) ?_
          refine br_f (by decide) ?_
          refine Exists.intro (2) (And.intro ⟨rfl, by decide, by omega⟩ ?_)
          refine Exists.intro (2) (And.intro ⟨rfl, by decide, by omega⟩ ?_)
          refine br_f (fun q => b1 (s1.symm.trans q)) ?_
          refine br_f (fun q => b2 (t1.symm.trans q)) ?_
          refine br_t ((s1.trans bb).trans t1.symm) ?_
          refine cl (ct_hasPart_2 l1 s2 f n) ?_
          by_cases p1 : (0 ≤ f.toInt ∧ 0 ≤ n.toInt ∧ n.toInt ≤ (ls : Int) - f.toInt)
          · rw [dec_t p1]
            refine br_f (by decide) ?_
            refine cl (ct_hasPart_2 l2 t2 u n) ?_
            rw [dec_f (fun p2 => hp ⟨p1, p2⟩)]
            refine br_t (by decide) ?_
            refine cl (ct_fd (w := 0) (by decide) rfl _) ?_
            exact And.intro rfl rfl
          · rw [dec_f p1]
            refine br_t (by decide) ?_
            refine cl (ct_fd (w := 0) (by decide) rfl _) ?_
            exact And.intro rfl rfl
      · refine Pair_fd h 2 ?_ ?_
        · refine Ct.of (by decide +kernel) zX4_copy (Nat.le_of_ble_eq_true rfl) (by decide) (fun X go => ?_)
          refine go.1 [] 100 _ _ _ _ ?_
          refine cl (isSh (b := true) rfl _) ?_
          refine br_f (by decide) ?_
          refine cl (isSh (b := true) rfl _) ?_
          refine br_f (by decide) ?_
          refine Exists.intro (2) (And.intro ⟨rfl, by decide, by omega⟩ ?_)
          refine Exists.intro (2) (And.intro ⟨rfl, by decide, by omega⟩ ?_)
          refine br_f (fun q => b1 (s1.symm.trans q)) ?_
          refine br_f (fun q => b2 (t1.symm.trans q)) ?_
          refine br_f (fun q => bb ((s1.symm.trans q).trans t1)) ?_
          refine cl (ct_fd (w := 2) (by decide) rfl _) ?_
          exact And.intro rfl rfl
        · refine Ct.of (by decide +kernel) zX5_copy (Nat.le_of_ble_eq_true rfl) (by decide) (fun X go => ?_)
          refine go.1 [] 100 _ _ _ _ ?_
          refine cl (isOM (b := true) rfl _) ?_
          refine br_f (by decide) ?_
          refine cl (isOM (b := true) rfl _) ?_
          refine br_f (by decide) ?_
          refine Exists.intro (2) (And.intro ⟨rfl, by decide, by omega⟩ ?_)
          refine br_f (show ¬ tel σ 2 52 2 = 0 from b1) ?_
          refine Exists.intro (2) (And.intro ⟨rfl, by decide, by omega⟩ ?_)
          refine br_f (show ¬ tel σ 2 52 2 = 0 from b2) ?_
          refine Exists.intro (2) (And.intro ⟨rfl, by decide, by omega⟩ ?_)
          refine Exists.intro (2) (And.intro ⟨rfl, by decide, by omega⟩ ?_)
          refine br_f (show ¬ tel σ 2 52 2 = tel σ 2 52 2 from bb) ?_
          refine cl (ct_finds (w := 2) (by decide) fd2 _) ?_
          exact And.intro rfl rfl

theorem P_copy_2_3 {σ : Sg} (h : J σ) (f u n : Int32) : Pair mX4_copy mX5_copy [.int (nI 2), .int f, .int (nI 3), .int u, .int n] σ := by
  obtain ⟨ls, l1, s2, s3, s1, sb, sn⟩ := J_sh h 2 (by decide)
  obtain ⟨lt, l2, t2, t3, t1, tb, tn⟩ := J_sh h 3 (by decide)
  have s2 : σ 39 2 = nI ls := s2
  have s1 : σ 39 1 = σ 52 2 := s1
  have t2 : σ 41 2 = nI lt := t2
  have t1 : σ 41 1 = σ 52 3 := t1
  by_cases b1 : σ 52 2 = 0
  · refine Pair_fd h 5 ?_ ?_
    · refine Ct.of (by decide +kernel) zX4_copy (Nat.le_of_ble_eq_true rfl) (by decide) (fun X go => ?_)
      refine go.1 [] 100 _ _ _ _ ?_
      refine cl (isSh (b := true) rfl _) ?_
      refine br_f (by decide) ?_
      refine cl (isSh (b := true) rfl _) ?_
      refine br_f (by decide) ?_
      refine Exists.intro (2) (And.intro ⟨rfl, by decide, by omega⟩ ?_)
      refine Exists.intro (3) (And.intro ⟨rfl, by decide, by omega⟩ ?_)
      refine br_t (s1.trans b1) ?_
      refine cl (ct_fd (w := 5) (by decide) rfl _) ?_
      exact And.intro rfl rfl
    · refine Ct.of (by decide +kernel) zX5_copy (Nat.le_of_ble_eq_true rfl) (by decide) (fun X go => ?_)
      refine go.1 [] 100 _ _ _ _ ?_
      refine cl (isOM (b := true) rfl _) ?_
      refine br_f (by decide) ?_
      refine cl (isOM (b := true) rfl _) ?_
      refine br_f (by decide) ?_
      refine Exists.intro (2) (And.intro ⟨rfl, by decide, by omega⟩ ?_)
      refine br_t (show tel σ 5 52 2 = 0 from b1) ?_
      refine cl (ct_finds (w := 5) (by decide) fd5 _) ?_
      exact And.intro rfl rfl
  · by_cases b2 : σ 52 3 = 0
    · refine Pair_fd h 5 ?_ ?_
      · refine Ct.of (by decide +kernel) zX4_copy (Nat.le_of_ble_eq_true rfl) (by decide) (fun X go => ?_)
        refine go.1 [] 100 _ _ _ _ ?_
        refine cl (isSh (b := true) rfl _) ?_
        refine br_f (by decide) ?_
        refine cl (isSh (b := true) rfl _) ?_
        refine br_f (by decide) ?_
        refine Exists.intro (2) (And.intro ⟨rfl, by decide, by omega⟩ ?_)
        refine Exists.intro (3) (And.intro ⟨rfl, by decide, by omega⟩ ?_)
        refine br_f (fun q => b1 (s1.symm.trans q)) ?_
        refine br_t (t1.trans b2) ?_
        refine cl (ct_fd (w := 5) (by decide) rfl _) ?_
        exact And.intro rfl rfl
      · refine Ct.of (by decide +kernel) zX5_copy (Nat.le_of_ble_eq_true rfl) (by decide) (fun X go => ?_)
        refine go.1 [] 100 _ _ _ _ ?_
        refine cl (isOM (b := true) rfl _) ?_
        refine br_f (by decide) ?_
        refine cl (isOM (b := true) rfl _) ?_
        refine br_f (by decide) ?_
        refine Exists.intro (2) (And.intro ⟨rfl, by decide, by omega⟩ ?_)
        refine br_f (show ¬ tel σ 5 52 2 = 0 from b1) ?_
        refine Exists.intro (3) (And.intro ⟨rfl, by decide, by omega⟩ ?_)
        refine br_t (show tel σ 5 52 3 = 0 from b2) ?_
        refine cl (ct_finds (w := 5) (by decide) fd5 _) ?_
        exact And.intro rfl rfl
    · by_cases bb : σ 52 2 = σ 52 3
      · by_cases hp : ptO ls lt f u n
        · obtain ⟨⟨f0, n0, fn⟩, ⟨u0, -, un⟩⟩ := hp
          have hp1 : (0 ≤ f.toInt ∧ 0 ≤ n.toInt ∧ n.toInt ≤ (ls : Int) - f.toInt) := ⟨f0, n0, fn⟩
          have hp2 : (0 ≤ u.toInt ∧ 0 ≤ n.toInt ∧ n.toInt ≤ (lt : Int) - u.toInt) := ⟨u0, n0, un⟩
          obtain ⟨a, ea, rfl⟩ : ∃ a : Nat, f.toInt = a ∧ f = nI a := ⟨f.toInt.toNat, by omega, nI_of_toInt (by omega) (by omega)⟩
          obtain ⟨b, eb, rfl⟩ : ∃ a : Nat, u.toInt = a ∧ u = nI a := ⟨u.toInt.toNat, by omega, nI_of_toInt (by omega) (by omega)⟩
          obtain ⟨c, ec, rfl⟩ : ∃ a : Nat, n.toInt = a ∧ n = nI a := ⟨n.toInt.toNat, by omega, nI_of_toInt (by omega) (by omega)⟩
          have k1 : a + c ≤ ls := by omega
          have k2 : b + c ≤ lt := by omega
          refine ⟨nI c, upr σ 42 (va_cpy (σ 40) (σ 42) a b c), _, ?_, ctm_copy (s := 2) (t := 3) (σ := upr σ 42 (va_cpy (σ 40) (σ 42) a b c)) (by decide) (by decide) b1 b2 bb l1 l2 s3 t3 k1 k2, J_copy h (s := 2) (t := 3) (by decide) (by decide) l1 l2 k1 k2⟩
          refine Ct.of (by decide +kernel) zX4_copy (Nat.le_of_ble_eq_true rfl) (by decide) (fun X go => ?_)
          refine go.1 [] 100 _ _ _ _ ?_
          refine cl (isSh (b := true) rfl _) ?_
          refine br_f (by decide) ?_
          refine cl (isSh (b := true) rfl _) ?_
          refine br_f (by decide) ?_
          refine Exists.intro (2) (And.intro ⟨rfl, by decide, by omega⟩ ?_)
          refine Exists.intro (3) (And.intro ⟨rfl, by decide, by omega⟩ ?_)
          refine br_f (fun q => b1 (s1.symm.trans q)) ?_
          refine br_f (fun q => b2 (t1.symm.trans q)) ?_
          refine br_t ((s1.trans bb).trans t1.symm) ?_
          refine cl (ct_hasPart_2 l1 s2 (nI a) (nI c)) ?_
          rw [dec_t hp1]
          refine br_f (by decide) ?_
          refine cl (ct_hasPart_3 l2 t2 (nI b) (nI c)) ?_
          rw [dec_t hp2]
          refine br_f (by decide) ?_
          refine Exists.intro a (Exists.intro b (Exists.intro c (And.intro ⟨rfl, rfl, rfl, by omega, by omega, by omega, by omega, by omega⟩ ?_)))
          exact And.intro rfl rfl
        · refine Pair_fd h 0 ?_ (ctm_copy_bad (s := 2) (t := 3) (σ := tel σ 0) (by decide) (by decide) b1 b2 bb l1 l2 s3 t3 hp)
          unfold ptO at hp
          refine Ct.of (by decide +kernel) zX4_copy (Nat.le_of_ble_eq_true rfl) (by decide) (fun X go => ?_)
          refine go.1 [] 100 _ _ _ _ ?_
          refine cl (isSh (b := true) rfl _) ?_
          refine br_f (by decide) ?_
          refine cl (isSh (b := true) rfl _) ?_
          refine br_f (by decide) ?_
          refine Exists.intro (2) (And.intro ⟨rfl, by decide, by omega⟩ ?_)
          refine Exists.intro (3) (And.intro ⟨rfl, by decide, by omega⟩ ?_)
          refine br_f (fun q => b1 (s1.symm.trans q)) ?_
          refine br_f (fun q => b2 (t1.symm.trans q)) ?_
          refine br_t ((s1.trans bb).trans t1.symm) ?_
          refine cl (ct_hasPart_2 l1 s2 f n) ?_
          by_cases p1 : (0 ≤ f.toInt ∧ 0 ≤ n.toInt ∧ n.toInt ≤ (ls : Int) - f.toInt)
          · rw [dec_t p1]
            refine br_f (by decide) ?_
            refine cl (ct_hasPart_3 l2 t2 u n) ?_
            rw [dec_f (fun p2 => hp ⟨p1, p2⟩)]
            refine br_t (by decide) ?_
            refine cl (ct_fd (w := 0) (by decide) rfl _) ?_
            exact And.intro rfl rfl
          · rw [dec_f p1]
            refine br_t (by decide) ?_
            refine cl (ct_fd (w := 0) (by decide) rfl _) ?_
            exact And.intro rfl rfl
      · refine Pair_fd h 2 ?_ ?_
        · refine Ct.of (by decide +kernel) zX4_copy (Nat.le_of_ble_eq_true rfl) (by decide) (fun X go => ?_)
          refine go.1 [] 100 _ _ _ _ ?_
          refine cl (isSh (b := true) rfl _) ?_
          refine br_f (by decide) ?_
          refine cl (isSh (b := true) rfl _) ?_
          refine br_f (by decide) ?_
          refine Exists.intro (2) (And.intro ⟨rfl, by decide, by omega⟩ ?_)
          refine Exists.intro (3) (And.intro ⟨rfl, by decide, by omega⟩ ?_)
          refine br_f (fun q => b1 (s1.symm.trans q)) ?_
          refine br_f (fun q => b2 (t1.symm.trans q)) ?_
          refine br_f (fun q => bb ((s1.symm.trans q).trans t1)) ?_
          refine cl (ct_fd (w := 2) (by decide) rfl _) ?_
          exact And.intro rfl rfl
        · refine Ct.of (by decide +kernel) zX5_copy (Nat.le_of_ble_eq_true rfl) (by decide) (fun X go => ?_)
          refine go.1 [] 100 _ _ _ _ ?_
          refine cl (isOM (b := true) rfl _) ?_
          refine br_f (by decide) ?_
          refine cl (isOM (b := true) rfl _) ?_
          refine br_f (by decide) ?_
          refine Exists.intro (2) (And.intro ⟨rfl, by decide, by omega⟩ ?_)
          refine br_f (show ¬ tel σ 2 52 2 = 0 from b1) ?_
          refine Exists.intro (3) (And.intro ⟨rfl, by decide, by omega⟩ ?_)
          refine br_f (show ¬ tel σ 2 52 3 = 0 from b2) ?_
          refine Exists.intro (2) (And.intro ⟨rfl, by decide, by omega⟩ ?_)
          refine Exists.intro (3) (And.intro ⟨rfl, by decide, by omega⟩ ?_)
          refine br_f (show ¬ tel σ 2 52 2 = tel σ 2 52 3 from bb) ?_
          refine cl (ct_finds (w := 2) (by decide) fd2 _) ?_
          exact And.intro rfl rfl

theorem P_copy_3_0 {σ : Sg} (h : J σ) (f u n : Int32) : Pair mX4_copy mX5_copy [.int (nI 3), .int f, .int (nI 0), .int u, .int n] σ := by
  obtain ⟨ls, l1, s2, s3, s1, sb, sn⟩ := J_sh h 3 (by decide)
  obtain ⟨lt, l2, t2, t3, t1, tb, tn⟩ := J_sh h 0 (by decide)
  have s2 : σ 41 2 = nI ls := s2
  have s1 : σ 41 1 = σ 52 3 := s1
  have t2 : σ 35 2 = nI lt := t2
  have t1 : σ 35 1 = σ 52 0 := t1
  by_cases b1 : σ 52 3 = 0
  · refine Pair_fd h 5 ?_ ?_
    · refine Ct.of (by decide +kernel) zX4_copy (Nat.le_of_ble_eq_true rfl) (by decide) (fun X go => ?_)
      refine go.1 [] 100 _ _ _ _ ?_
      refine cl (isSh (b := true) rfl _) ?_
      refine br_f (by decide) ?_
      refine cl (isSh (b := true) rfl _) ?_
      refine br_f (by decide) ?_
      refine Exists.intro (3) (And.intro ⟨rfl, by decide, by omega⟩ ?_)
      refine Exists.intro (0) (And.intro ⟨rfl, by decide, by omega⟩ ?_)
      refine br_t (s1.trans b1) ?_
      refine cl (ct_fd (w := 5) (by decide) rfl _) ?_
      exact And.intro rfl rfl
    · refine Ct.of (by decide +kernel) zX5_copy (Nat.le_of_ble_eq_true rfl) (by decide) (fun X go => ?_)
      refine go.1 [] 100 _ _ _ _ ?_
      refine cl (isOM (b := true) rfl _) ?_
      refine br_f (by decide) ?_
      refine cl (isOM (b := true) rfl _) ?_
      refine br_f (by decide) ?_
      refine Exists.intro (3) (And.intro ⟨rfl, by decide, by omega⟩ ?_)
      refine br_t (show tel σ 5 52 3 = 0 from b1) ?_
      refine cl (ct_finds (w := 5) (by decide) fd5 _) ?_
      exact And.intro rfl rfl
  · by_cases b2 : σ 52 0 = 0
    · refine Pair_fd h 5 ?_ ?_
      · refine Ct.of (by decide +kernel) zX4_copy (Nat.le_of_ble_eq_true rfl) (by decide) (fun X go => ?_)
        refine go.1 [] 100 _ _ _ _ ?_
        refine cl (isSh (b := true) rfl _) ?_
        refine br_f (by decide) ?_
        refine cl (isSh (b := true) rfl _) ?_
        refine br_f (by decide) ?_
        refine Exists.intro (3) (And.intro ⟨rfl, by decide, by omega⟩ ?_)
        refine Exists.intro (0) (And.intro ⟨rfl, by decide, by omega⟩ ?_)
        refine br_f (fun q => b1 (s1.symm.trans q)) ?_
        refine br_t (t1.trans b2) ?_
        refine cl (ct_fd (w := 5) (by decide) rfl _) ?_
        exact And.intro rfl rfl
      · refine Ct.of (by decide +kernel) zX5_copy (Nat.le_of_ble_eq_true rfl) (by decide) (fun X go => ?_)
        refine go.1 [] 100 _ _ _ _ ?_
        refine cl (isOM (b := true) rfl _) ?_
        refine br_f (by decide) ?_
        refine cl (isOM (b := true) rfl _) ?_
        refine br_f (by decide) ?_
        refine Exists.intro (3) (And.intro ⟨rfl, by decide, by omega⟩ ?_)
        refine br_f (show ¬ tel σ 5 52 3 = 0 from b1) ?_
        refine Exists.intro (0) (And.intro ⟨rfl, by decide, by omega⟩ ?_)
        refine br_t (show tel σ 5 52 0 = 0 from b2) ?_
        refine cl (ct_finds (w := 5) (by decide) fd5 _) ?_
        exact And.intro rfl rfl
    · by_cases bb : σ 52 3 = σ 52 0
      · by_cases hp : ptO ls lt f u n
        · obtain ⟨⟨f0, n0, fn⟩, ⟨u0, -, un⟩⟩ := hp
          have hp1 : (0 ≤ f.toInt ∧ 0 ≤ n.toInt ∧ n.toInt ≤ (ls : Int) - f.toInt) := ⟨f0, n0, fn⟩
          have hp2 : (0 ≤ u.toInt ∧ 0 ≤ n.toInt ∧ n.toInt ≤ (lt : Int) - u.toInt) := ⟨u0, n0, un⟩
          obtain ⟨a, ea, rfl⟩ : ∃ a : Nat, f.toInt = a ∧ f = nI a := ⟨f.toInt.toNat, by omega, nI_of_toInt (by omega) (by omega)⟩
          obtain ⟨b, eb, rfl⟩ : ∃ a : Nat, u.toInt = a ∧ u = nI a := ⟨u.toInt.toNat, by omega, nI_of_toInt (by omega) (by omega)⟩
          obtain ⟨c, ec, rfl⟩ : ∃ a : Nat, n.toInt = a ∧ n = nI a := ⟨n.toInt.toNat, by omega, nI_of_toInt (by omega) (by omega)⟩
          have k1 : a + c ≤ ls := by omega
          have k2 : b + c ≤ lt := by omega
          refine ⟨nI c, upr σ 36 (va_cpy (σ 42) (σ 36) a b c), _, ?_, ctm_copy (s := 3) (t := 0) (σ := upr σ 36 (va_cpy (σ 42) (σ 36) a b c)) (by decide) (by decide) b1 b2 bb l1 l2 s3 t3 k1 k2, J_copy h (s := 3) (t := 0) (by decide) (by decide) l1 l2 k1 k2⟩
          refine Ct.of (by decide +kernel) zX4_copy (Nat.le_of_ble_eq_true rfl) (by decide) (fun X go => ?_)
          refine go.1 [] 100 _ _ _ _ ?_
          refine cl (isSh (b := true) rfl _) ?_
          refine br_f (by decide) ?_
          refine cl (isSh (b := true) rfl _) ?_
          refine br_f (by decide) ?_
          refine Exists.intro (3) (And.intro ⟨rfl, by decide, by omega⟩ ?_)
          refine Exists.intro (0) (And.intro ⟨rfl, by decide, by omega⟩ ?_)
          refine br_f (fun q => b1 (s1.symm.trans q)) ?_
          refine br_f (fun q => b2 (t1.symm.trans q)) ?_
          refine br_t ((s1.trans bb).trans t1.symm) ?_
          refine cl (ct_hasPart_3 l1 s2 (nI a) (nI c)) ?_
          rw [dec_t hp1]
          refine br_f (by decide) ?_
          refine cl (ct_hasPart_0 l2 t2 (nI b) (nI c)) ?_
          rw [dec_t hp2]
          refine br_f (by decide) ?_
          refine Exists.intro a (Exists.intro b (Exists.intro c (And.intro ⟨rfl, rfl, rfl, by omega, by omega, by omega, by omega, by omega⟩ ?_)))
          exact And.intro rfl rfl
        · refine Pair_fd h 0 ?_ (ctm_copy_bad (s := 3) (t := 0) (σ := tel σ 0) (by decide) (by decide) b1 b2 bb l1 l2 s3 t3 hp)
          unfold ptO at hp
          refine Ct.of (by decide +kernel) zX4_copy (Nat.le_of_ble_eq_true rfl) (by decide) (fun X go => ?_)
          refine go.1 [] 100 _ _ _ _ ?_
          refine cl (isSh (b := true) rfl _) ?_
          refine br_f (by decide) ?_
          refine cl (isSh (b := true) rfl _) ?_
          refine br_f (by decide) ?_
          refine Exists.intro (3) (And.intro ⟨rfl, by decide, by omega⟩ ?_)
          refine Exists.intro (0) (And.intro ⟨rfl, by decide, by omega⟩ ?_)
          refine br_f (fun q => b1 (s1.symm.trans q)) ?_
          refine br_f (fun q => b2 (t1.symm.trans q)) ?_
          refine br_t ((s1.trans bb).trans t1.symm) ?_
          refine cl (ct_hasPart_3 l1 s2 f n) ?_
          by_cases p1 : (0 ≤ f.toInt ∧ 0 ≤ n.toInt ∧ n.toInt ≤ (ls : Int) - f.toInt)
          · rw [dec_t p1]
            refine br_f (by decide) ?_
            refine cl (ct_hasPart_0 l2 t2 u n) ?_
            rw [dec_f (fun p2 => hp ⟨p1, p2⟩)]
            refine br_t (by decide) ?_
            refine cl (ct_fd (w := 0) (by decide) rfl _) ?_
            exact And.intro rfl rfl
          · rw [dec_f p1]
            refine br_t (by decide) ?_
            refine cl (ct_fd (w := 0) (by decide) rfl _) ?_
            exact And.intro rfl rfl
      · refine Pair_fd h 2 ?_ ?_
        · refine Ct.of (by decide +kernel) zX4_copy (Nat.le_of_ble_eq_true rfl) (by decide) (fun X go => ?_)
          refine go.1 [] 100 _ _ _ _ ?_
          refine cl (isSh (b := true) rfl _) ?_
          refine br_f (by decide) ?_
          refine cl (isSh (b := true) rfl _) ?_
          refine br_f (by decide) ?_
          refine Exists.intro (3) (And.intro ⟨rfl, by decide, by omega⟩ ?_)
          refine Exists.intro (0) (And.intro ⟨rfl, by decide, by omega⟩ ?_)
          refine br_f (fun q => b1 (s1.symm.trans q)) ?_
          refine br_f (fun q => b2 (t1.symm.trans q)) ?_
          refine br_f (fun q => bb ((s1.symm.trans q).trans t1)) ?_
          refine cl (ct_fd (w := 2) (by decide) rfl _) ?_
          exact And.intro rfl rfl
        · refine Ct.of (by decide +kernel) zX5_copy (Nat.le_of_ble_eq_true rfl) (by decide) (fun X go => ?_)
          refine go.1 [] 100 _ _ _ _ ?_
          refine cl (isOM (b := true) rfl _) ?_
          refine br_f (by decide) ?_
          refine cl (isOM (b := true) rfl _) ?_
          refine br_f (by decide) ?_
          refine Exists.intro (3) (And.intro ⟨rfl, by decide, by omega⟩ ?_)
          refine br_f (show ¬ tel σ 2 52 3 = 0 from b1) ?_
          refine Exists.intro (0) (And.intro ⟨rfl, by decide, by omega⟩ ?_)
          refine br_f (show ¬ tel σ 2 52 0 = 0 from b2) ?_
          refine Exists.intro (3) (And.intro ⟨rfl, by decide, by omega⟩ ?_)
          refine Exists.intro (0) (And.intro ⟨rfl, by decide, by omega⟩ ?_)
          refine br_f (show ¬ tel σ 2 52 3 = tel σ 2 52 0 from bb) ?_
          refine cl (ct_finds (w := 2) (by decide) fd2 _) ?_
          exact And.intro rfl rfl

theorem P_copy_3_1 {σ : Sg} (h : J σ) (f u n : Int32) : Pair mX4_copy mX5_copy [.int (nI 3), .int f, .int (nI 1), .int u, .int n] σ := by
  obtain ⟨ls, l1, s2, s3, s1, sb, sn⟩ := J_sh h 3 (by decide)
  obtain ⟨lt, l2, t2, t3, t1, tb, tn⟩ := J_sh h 1 (by decide)
  have s2 : σ 41 2 = nI ls := s2
  have s1 : σ 41 1 = σ 52 3 := s1
  have t2 : σ 37 2 = nI lt := t2
  have t1 : σ 37 1 = σ 52 1 := t1
  by_cases b1 : σ 52 3 = 0
  · refine Pair_fd h 5 ?_ ?_
    · refine Ct.of (by decide +kernel) zX4_copy (Nat.le_of_ble_eq_true rfl) (by decide) (fun X go => ?_)
      refine go.1 [] 100 _ _ _ _ ?_
      refine cl (isSh (b := true) rfl _) ?_
      refine br_f (by decide) ?_
      refine cl (isSh (b := true) rfl _) ?_
      refine br_f (by decide) ?_
      refine Exists.intro (3) (And.intro ⟨rfl, by decide, by omega⟩ ?_)
      refine Exists.intro (1) (And.intro ⟨rfl, by decide, by omega⟩ ?_)
      refine br_t (s1.trans b1) ?_
      refine cl (ct_fd (w := 5) (by decide) rfl _) ?_
      exact And.intro rfl rfl
    · refine Ct.of (by decide +kernel) zX5_copy (Nat.le_of_ble_eq_true rfl) (by decide) (fun X go => ?_)
      refine go.1 [] 100 _ _ _ _ ?_
      refine cl (isOM (b := true) rfl _) ?_
      refine br_f (by decide) ?_
      refine cl (isOM (b := true) rfl _) ?_
      refine br_f (by decide) ?_
      refine Exists.intro (3) (And.intro ⟨rfl, by decide, by omega⟩ ?_)
      refine br_t (show tel σ 5 52 3 = 0 from b1) ?_
      refine cl (ct_finds (w := 5) (by decide) fd5 _) ?_
      exact And.intro rfl rfl
  · by_cases b2 : σ 52 1 = 0
    · refine Pair_fd h 5 ?_ ?_
      · refine Ct.of (by decide +kernel) zX4_copy (Nat.le_of_ble_eq_true rfl) (by decide) (fun X go => ?_)
        refine go.1 [] 100 _ _ _ _ ?_
        refine cl (isSh (b := true) rfl _) ?_
        refine br_f (by decide) ?_
        refine cl (isSh (b := true) rfl _) ?_
        refine br_f (by decide) ?_
        refine Exists.intro (3) (And.intro ⟨rfl, by decide, by omega⟩ ?_)
        refine Exists.intro (1) (And.intro ⟨rfl, by decide, by omega⟩ ?_)
        refine br_f (fun q => b1 (s1.symm.trans q)) ?_
        refine br_t (t1.trans b2) ?_
        refine cl (ct_fd (w := 5) (by decide) rfl _) ?_
        exact And.intro rfl rfl
      · refine Ct.of (by decide +kernel) zX5_copy (Nat.le_of_ble_eq_true rfl) (by decide) (fun X go => ?_)
        refine go.1 [] 100 _ _ _ _ ?_
        refine cl (isOM (b := true) rfl _) ?_
        refine br_f (by decide) ?_
        refine cl (isOM (b := true) rfl _) ?_
        refine br_f (by decide) ?_
        refine Exists.intro (3) (And.intro ⟨rfl, by decide, by omega⟩ ?_)
        refine br_f (show ¬ tel σ 5 52 3 = 0 from b1) ?_
        refine Exists.intro (1) (And.intro ⟨rfl, by decide, by omega⟩ ?_)
        refine br_t (show tel σ 5 52 1 = 0 from b2) ?_
        refine cl (ct_finds (w := 5) (by decide) fd5 _) ?_
        exact And.intro rfl rfl
    · by_cases bb : σ 52 3 = σ 52 1
      · by_cases hp : ptO ls lt f u n
        · obtain ⟨⟨f0, n0, fn⟩, ⟨u0, -, un⟩⟩ := hp
          have hp1 : (0 ≤ f.toInt ∧ 0 ≤ n.toInt ∧ n.toInt ≤ (ls : Int) - f.toInt) := ⟨f0, n0, fn⟩
          have hp2 : (0 ≤ u.toInt ∧ 0 ≤ n.toInt ∧ n.toInt ≤ (lt : Int) - u.toInt) := ⟨u0, n0, un⟩
          obtain ⟨a, ea, rfl⟩ : ∃ a : Nat, f.toInt = a ∧ f = nI a := ⟨f.toInt.toNat, by omega, nI_of_toInt (by omega) (by omega)⟩
          obtain ⟨b, eb, rfl⟩ : ∃ a : Nat, u.toInt = a ∧ u = nI a := ⟨u.toInt.toNat, by omega, nI_of_toInt (by omega) (by omega)⟩
          obtain ⟨c, ec, rfl⟩ : ∃ a : Nat, n.toInt = a ∧ n = nI a := ⟨n.toInt.toNat, by omega, nI_of_toInt (by omega) (by omega)⟩
          have k1 : a + c ≤ ls := by omega
          have k2 : b + c ≤ lt := by omega
          refine ⟨nI c, upr σ 38 (va_cpy (σ 42) (σ 38) a b c), _, ?_, ctm_copy (s := 3) (t := 1) (σ := upr σ 38 (va_cpy (σ 42) (σ 38) a b c)) (by decide) (by decide) b1 b2 bb l1 l2 s3 t3 k1 k2, J_copy h (s := 3) (t := 1) (by decide) (by decide) l1 l2 k1 k2⟩
          refine Ct.of (by decide +kernel) zX4_copy (Nat.le_of_ble_eq_true rfl) (by decide) (fun X go => ?_)
          refine go.1 [] 100 _ _ _ _ ?_
          refine cl (isSh (b := true) rfl _) ?_
          refine br_f (by decide) ?_
          refine cl (isSh (b := true) rfl _) ?_
          refine br_f (by decide) ?_
          refine Exists.intro (3) (And.intro ⟨rfl, by decide, by omega⟩ ?_)
          refine Exists.intro (1) (And.intro ⟨rfl, by decide, by omega⟩ ?_)
          refine br_f (fun q => b1 (s1.symm.trans q)) ?_
          refine br_f (fun q => b2 (t1.symm.trans q)) ?_
          refine br_t ((s1.trans bb).trans t1.symm) ?_
          refine cl (ct_hasPart_3 l1 s2 (nI a) (nI c)) ?_
          rw [dec_t hp1]
          refine br_f (by decide) ?_
          refine cl (ct_hasPart_1 l2 t2 (nI b) (nI c)) ?_
          rw [dec_t hp2]
          refine br_f (by decide) ?_
          refine Exists.intro a (Exists.intro b (Exists.intro c (And.intro ⟨rfl, rfl, rfl, by omega, by omega, by omega, by omega, by omega⟩ ?_)))
          exact And.intro rfl rfl
        · refine Pair_fd h 0 ?_ (ctm_copy_bad (s := 3) (t := 1) (σ := tel σ 0) (by decide) (by decide) b1 b2 bb l1 l2 s3 t3 hp)
          unfold ptO at hp
          refine Ct.of (by decide +kernel) zX4_copy (Nat.le_of_ble_eq_true rfl) (by decide) (fun X go => ?_)
          refine go.1 [] 100 _ _ _ _ ?_
          refine cl (isSh (b := true) rfl _) ?_
          refine br_f (by decide) ?_
          refine cl (isSh (b := true) rfl _) ?_
          refine br_f (by decide) ?_
          refine Exists.intro (3) (And.intro ⟨rfl, by decide, by omega⟩ ?_)
          refine Exists.intro (1) (And.intro ⟨rfl, by decide, by omega⟩ ?_)
          refine br_f (fun q => b1 (s1.symm.trans q)) ?_
          refine br_f (fun q => b2 (t1.symm.trans q)) ?_
          refine br_t ((s1.trans bb).trans t1.symm) ?_
          refine cl (ct_hasPart_3 l1 s2 f n) ?_
          by_cases p1 : (0 ≤ f.toInt ∧ 0 ≤ n.toInt ∧ n.toInt ≤ (ls : Int) - f.toInt)
          · rw [dec_t p1]
            refine br_f (by decide) ?_
            refine cl (ct_hasPart_1 l2 t2 u n) ?_
            rw [dec_f (fun p2 => hp ⟨p1, p2⟩)]
            refine br_t (by decide) ?_
            refine cl (ct_fd (w := 0) (by decide) rfl _) ?_
            exact And.intro rfl rfl
          · rw [dec_f p1]
            refine br_t (by decide) ?_
            refine cl (ct_fd (w := 0) (by decide) rfl _) ?_
            exact And.intro rfl rfl
      · refine Pair_fd h 2 ?_ ?_
        · refine Ct.of (by decide +kernel) zX4_copy (Nat.le_of_ble_eq_true rfl) (by decide) (fun X go => ?_)
          refine go.1 [] 100 _ _ _ _ ?_
          refine cl (isSh (b := true) rfl _) ?_
          refine br_f (by decide) ?_
          refine cl (isSh (b := true) rfl _) ?_
          refine br_f (by decide) ?_
          refine Exists.intro (3) (And.intro ⟨rfl, by decide, by omega⟩ ?_)
          refine Exists.intro (1) (And.intro ⟨rfl, by decide, by omega⟩ ?_)
          refine br_f (fun q => b1 (s1.symm.trans q)) ?_
          refine br_f (fun q => b2 (t1.symm.trans q)) ?_
          refine br_f (fun q => bb ((s1.symm.trans q).trans t1)) ?_
          refine cl (ct_fd (w := 2) (by decide) rfl _) ?_
          exact And.intro rfl rfl
        · refine Ct.of (by decide +kernel) zX5_copy (Nat.le_of_ble_eq_true rfl) (by decide) (fun X go => ?_)
          refine go.1 [] 100 _ _ _ _ ?_
          refine cl (isOM (b := true) rfl _) ?_
          refine br_f (by decide) ?_
          refine cl (isOM (b := true) rfl _) ?_
          refine br_f (by decide) ?_
          refine Exists.intro (3) (And.intro ⟨rfl, by decide, by omega⟩ ?_)
          refine br_f (show ¬ tel σ 2 52 3 = 0 from b1) ?_
          refine Exists.intro (1) (And.intro ⟨rfl, by decide, by omega⟩ ?_)
          refine br_f (show ¬ tel σ 2 52 1 = 0 from b2) ?_
          refine Exists.intro (3) (And.intro ⟨rfl, by decide, by omega⟩ ?_)
          refine Exists.intro (1) (And.intro ⟨rfl, by decide, by omega⟩ ?_)
          refine br_f (show ¬ tel σ 2 52 3 = tel σ 2 52 1 from bb) ?_
          refine cl (ct_finds (w := 2) (by decide) fd2 _) ?_
          exact And.intro rfl rfl

theorem P_copy_3_2 {σ : Sg} (h : J σ) (f u n : Int32) : Pair mX4_copy mX5_copy [.int (nI 3), .int f, .int (nI 2), .int u, .int n] σ := by
  obtain ⟨ls, l1, s2, s3, s1, sb, sn⟩ := J_sh h 3 (by decide)
  obtain ⟨lt, l2, t2, t3, t1, tb, tn⟩ := J_sh h 2 (by decide)
  have s2 : σ 41 2 = nI ls := s2
  have s1 : σ 41 1 = σ 52 3 := s1
  have t2 : σ 39 2 = nI lt := t2
  have t1 : σ 39 1 = σ 52 2 := t1
  by_cases b1 : σ 52 3 = 0
  · refine Pair_fd h 5 ?_ ?_
    · refine Ct.of (by decide +kernel) zX4_copy (Nat.le_of_ble_eq_true rfl) (by decide) (fun X go => ?_)
      refine go.1 [] 100 _ _ _ _ ?_
      refine cl (isSh (b := true) rfl _) ?_
      refine br_f (by decide) ?_
      refine cl (isSh (b := true) rfl _) ?_
      refine br_f (by decide) ?_
      refine Exists.intro (3) (And.intro ⟨rfl, by decide, by omega⟩ ?_)
      refine Exists.intro (2) (And.intro ⟨rfl, by decide, by omega⟩ ?_)
      refine br_t (s1.trans b1) ?_
      refine cl (ct_fd (w := 5) (by decide) rfl _) ?_
      exact And.intro rfl rfl
    · refine Ct.of (by decide +kernel) zX5_copy (Nat.le_of_ble_eq_true rfl) (by decide) (fun X go => ?_)
      refine go.1 [] 100 _ _ _ _ ?_
      refine cl (isOM (b := true) rfl _) ?_
      refine br_f (by decide) ?_
      refine cl (isOM (b := true) rfl _) ?_
      refine br_f (by decide) ?_
      refine Exists.intro (3) (And.intro ⟨rfl, by decide, by omega⟩ ?_)
      refine br_t (show tel σ 5 52 3 = 0 from b1) ?_
      refine cl (ct_finds (w := 5) (by decide) fd5 _) ?_
      exact And.intro rfl rfl
  · by_cases b2 : σ 52 2 = 0
    · refine Pair_fd h 5 ?_ ?_
      · refine Ct.of (by decide +kernel) zX4_copy (Nat.le_of_ble_eq_true rfl) (by decide) (fun X go => ?_)
        refine go.1 [] 100 _ _ _ _ ?_
        refine cl (isSh (b := true) rfl _) ?_
        refine br_f (by decide) ?_
        refine cl (isSh (b := true) rfl _) ?_
        refine br_f (by decide) ?_
        refine Exists.intro (3) (And.intro ⟨rfl, by decide, by omega⟩ ?_)
        refine Exists.intro (2) (And.intro ⟨rfl, by decide, by omega⟩ ?_)
        refine br_f (fun q => b1 (s1.symm.trans q)) ?_
        refine br_t (t1.trans b2) ?_
        refine cl (ct_fd (w := 5) (by decide) rfl _) ?_
        exact And.intro rfl rfl
      · refine Ct.of (by decide +kernel) zX5_copy (Nat.le_of_ble_eq_true rfl) (by decide) (fun X go => ?_)
        refine go.1 [] 100 _ _ _ _ ?_
        refine cl (isOM (b := true) rfl _) ?_
        refine br_f (by decide) ?_
        refine cl (isOM (b := true) rfl _) ?_
        refine br_f (by decide) ?_
        refine Exists.intro (3) (And.intro ⟨rfl, by decide, by omega⟩ ?_)
        refine br_f (show ¬ tel σ 5 52 3 = 0 from b1) ?_
        refine Exists.intro (2) (And.intro ⟨rfl, by decide, by omega⟩ ?_)
        refine br_t (show tel σ 5 52 2 = 0 from b2) ?_
        refine cl (ct_finds (w := 5) (by decide) fd5 _) ?_
        exact And.intro rfl rfl
    · by_cases bb : σ 52 3 = σ 52 2
      · by_cases hp : ptO ls lt f u n
        · obtain ⟨⟨f0, n0, fn⟩, ⟨u0, -, un⟩⟩ := hp
          have hp1 : (0 ≤ f.toInt ∧ 0 ≤ n.toInt ∧ n.toInt ≤ (ls : Int) - f.toInt) := ⟨f0, n0, fn⟩
          have hp2 : (0 ≤ u.toInt ∧ 0 ≤ n.toInt ∧ n.toInt ≤ (lt : Int) - u.toInt) := ⟨u0, n0, un⟩
          obtain ⟨a, ea, rfl⟩ : ∃ a : Nat, f.toInt = a ∧ f = nI a := ⟨f.toInt.toNat, by omega, nI_of_toInt (by omega) (by omega)⟩
          obtain ⟨b, eb, rfl⟩ : ∃ a : Nat, u.toInt = a ∧ u = nI a := ⟨u.toInt.toNat, by omega, nI_of_toInt (by omega) (by omega)⟩
          obtain ⟨c, ec, rfl⟩ : ∃ a : Nat, n.toInt = a ∧ n = nI a := ⟨n.toInt.toNat, by omega, nI_of_toInt (by omega) (by omega)⟩
          have k1 : a + c ≤ ls := by omega
          have k2 : b + c ≤ lt := by omega
          refine ⟨nI c, upr σ 40 (va_cpy (σ 42) (σ 40) a b c), _, ?_, ctm_copy (s := 3) (t := 2) (σ := upr σ 40 (va_cpy (σ 42) (σ 40) a b c)) (by decide) (by decide) b1 b2 bb l1 l2 s3 t3 k1 k2, J_copy h (s := 3) (t := 2) (by decide) (by decide) l1 l2 k1 k2⟩
          refine Ct.of (by decide +kernel) zX4_copy (Nat.le_of_ble_eq_true rfl) (by decide) (fun X go => ?_)
          refine go.1 [] 100 _ _ _ _ ?_
          refine cl (isSh (b := true) rfl _) ?_
          refine br_f (by decide) ?_
          refine cl (isSh (b := true) rfl _) ?_
          refine br_f (by decide) ?_
          refine Exists.intro (3) (And.intro ⟨rfl, by decide, by omega⟩ ?_)
          refine Exists.intro (2) (And.intro ⟨rfl, by decide, by omega⟩ ?_)
          refine br_f (fun q => b1 (s1.symm.trans q)) ?_
          refine br_f (fun q => b2 (t1.symm.trans q)) ?_
          refine br_t ((s1.trans bb).trans t1.symm) ?_
          refine cl (ct_hasPart_3 l1 s2 (nI a) (nI c)) ?_
          rw [dec_t hp1]
          refine br_f (by decide) ?_
          refine cl (ct_hasPart_2 l2 t2 (nI b) (nI c)) ?_
          rw [dec_t hp2]
          refine br_f (by decide) ?_
          refine Exists.intro a (Exists.intro b (Exists.intro c (And.intro ⟨rfl, rfl, rfl, by omega, by omega, by omega, by omega, by omega⟩ ?_)))
          exact And.intro rfl rfl
        · refine Pair_fd h 0 ?_ (ctm_copy_bad (s := 3) (t := 2) (σ := tel σ 0) (by decide) (by decide) b1 b2 bb l1 l2 s3 t3 hp)
          unfold ptO at hp
          refine Ct.of (by decide +kernel) zX4_copy (Nat.le_of_ble_eq_true rfl) (by decide) (fun X go => ?_)
          refine go.1 [] 100 _ _ _ _ ?_
          refine cl (isSh (b := true) rfl _) ?_
          refine br_f (by decide) ?_
          refine cl (isSh (b := true) rfl _) ?_
          refine br_f (by decide) ?_
          refine Exists.intro (3) (And.intro ⟨rfl, by decide, by omega⟩ ?_)
          refine Exists.intro (2) (And.intro ⟨rfl, by decide, by omega⟩ ?_)
          refine br_f (fun q => b1 (s1.symm.trans q)) ?_
          refine br_f (fun q => b2 (t1.symm.trans q)) ?_
          refine br_t ((s1.trans bb).trans t1.symm) ?_
          refine cl (ct_hasPart_3 l1 s2 f n) ?_
          by_cases p1 : (0 ≤ f.toInt ∧ 0 ≤ n.toInt ∧ n.toInt ≤ (ls : Int) - f.toInt)
          · rw [dec_t p1]
            refine br_f (by decide) ?_
            refine cl (ct_hasPart_2 l2 t2 u n) ?_
            rw [dec_f (fun p2 => hp ⟨p1, p2⟩)]
            refine br_t (by decide) ?_
            refine cl (ct_fd (w := 0) (by decide) rfl _) ?_
            exact And.intro rfl rfl
          · rw [dec_f p1]
            refine br_t (by decide) ?_
            refine cl (ct_fd (w := 0) (by decide) rfl _) ?_
            exact And.intro rfl rfl
      · refine Pair_fd h 2 ?_ ?_
        · refine Ct.of (by decide +kernel) zX4_copy (Nat.le_of_ble_eq_true rfl) (by decide) (fun X go => ?_)
          refine go.1 [] 100 _ _ _ _ ?_
          refine cl (isSh (b := true) rfl _) ?_
          refine br_f (by decide) ?_
          refine cl (isSh (b := true) rfl _) ?_
          refine br_f (by decide) ?_
          refine Exists.intro (3) (And.intro ⟨rfl, by decide, by omega⟩ ?_)
          refine Exists.intro (2) (And.intro ⟨rfl, by decide, by omega⟩ ?_)
          refine br_f (fun q => b1 (s1.symm.trans q)) ?_
          refine br_f (fun q => b2 (t1.symm.trans q)) ?_
          refine br_f (fun q => bb ((s1.symm.trans q).trans t1)) ?_
          refine cl (ct_fd (w := 2) (by decide) rfl _) ?_
          exact And.intro rfl rfl
        · refine Ct.of (by decide +kernel) zX5_copy (Nat.le_of_ble_eq_true rfl) (by decide) (fun X go => ?_)
          refine go.1 [] 100 _ _ _ _ ?_
          refine cl (isOM (b := true) rfl _) ?_
          refine br_f (by decide) ?_
          refine cl (isOM (b := true) rfl _) ?_
          refine br_f (by decide) ?_
          refine Exists.intro (3) (And.intro ⟨rfl, by decide, by omega⟩ ?_)
          refine br_f (show ¬ tel σ 2 52 3 = 0 from b1) ?_
          refine Exists.intro (2) (And.intro ⟨rfl, by decide, by omega⟩ ?_)
          refine br_f (show ¬ tel σ 2 52 2 = 0 from b2) ?_
          refine Exists.intro (3) (And.intro ⟨rfl, by decide, by omega⟩ ?_)
          refine Exists.intro (2) (And.intro ⟨rfl, by decide, by omega⟩ ?_)
          refine br_f (show ¬ tel σ 2 52 3 = tel σ 2 52 2 from bb) ?_
          refine cl (ct_finds (w := 2) (by decide) fd2 _) ?_
          exact And.intro rfl rfl

theorem P_copy_3_3 {σ : Sg} (h : J σ) (f u n : Int32) : Pair mX4_copy mX5_copy [.int (nI 3), .int f, .int (nI 3), .int u, .int n] σ := by
  obtain ⟨ls, l1, s2, s3, s1, sb, sn⟩ := J_sh h 3 (by decide)
  obtain ⟨lt, l2, t2, t3, t1, tb, tn⟩ := J_sh h 3 (by decide)
  have s2 : σ 41 2 = nI ls := s2
  have s1 : σ 41 1 = σ 52 3 := s1
  have t2 : σ 41 2 = nI lt := t2
  have t1 : σ 41 1 = σ 52 3 := t1
  by_cases b1 : σ 52 3 = 0
  · refine Pair_fd h 5 ?_ ?_
    · refine Ct.of (by decide +kernel) zX4_copy (Nat.le_of_ble_eq_true rfl) (by decide) (fun X go => ?_)
      refine go.1 [] 100 _ _ _ _ ?_
      refine cl (isSh (b := true) rfl _) ?_
      refine br_f (by decide) ?_
      refine cl (isSh (b := true) rfl _) ?_
      refine br_f (by decide) ?_
      refine Exists.intro (3) (And.intro ⟨rfl, by decide, by omega⟩ ?_)
      refine Exists.intro (3) (And.intro ⟨rfl, by decide, by omega⟩ ?_)
      refine br_t (s1.trans b1) ?_
      refine cl (ct_fd (w := 5) (by decide) rfl _) ?_
      exact And.intro rfl rfl
    · refine Ct.of (by decide +kernel) zX5_copy (Nat.le_of_ble_eq_true rfl) (by decide) (fun X go => ?_)
      refine go.1 [] 100 _ _ _ _ ?_
      refine cl (isOM (b := true) rfl _) ?_
      refine br_f (by decide) ?_
      refine cl (isOM (b := true) rfl _) ?_
      refine br_f (by decide) ?_
      refine Exists.intro (3) (And.intro ⟨rfl, by decide, by omega⟩ ?_)
      refine br_t (show tel σ 5 52 3 = 0 from b1) ?_
      refine cl (ct_finds (w := 5) (by decide) fd5 _) ?_
      exact And.intro rfl rfl
  · by_cases b2 : σ 52 3 = 0
    · refine Pair_fd h 5 ?_ ?_
      · refine Ct.of (by decide +kernel) zX4_copy (Nat.le_of_ble_eq_true rfl) (by decide) (fun X go => ?_)
        refine go.1 [] 100 _ _ _ _ ?_
        refine cl (isSh (b := true) rfl _) ?_
        refine br_f (by decide) ?_
        refine cl (isSh (b := true) rfl _) ?_
        refine br_f (by decide) ?_
        refine Exists.intro (3) (And.intro ⟨rfl, by decide, by omega⟩ ?_)
        refine Exists.intro (3) (And.intro ⟨rfl, by decide, by omega⟩ ?_)
        refine br_f (fun q => b1 (s1.symm.trans q)) ?_
        refine br_t (t1.trans b2) ?_
        refine cl (ct_fd (w := 5) (by decide) rfl _) ?_
        exact And.intro rfl rfl
      · refine Ct.of (by decide +kernel) zX5_copy (Nat.le_of_ble_eq_true rfl) (by decide) (fun X go => ?_)
        refine go.1 [] 100 _ _ _ _ ?_
        refine cl (isOM (b := true) rfl _) ?_
        refine br_f (by decide) ?_
        refine cl (isOM (b := true) rfl _) ?_
        refine br_f (by decide) ?_
        refine Exists.intro (3) (And.intro ⟨rfl, by decide, by omega⟩ ?_)
        refine br_f (show ¬ tel σ 5 52 3 = 0 from b1) ?_
        refine Exists.intro (3) (And.intro ⟨rfl, by decide, by omega⟩ ?_)
        refine br_t (show tel σ 5 52 3 = 0 from b2) ?_
        refine cl (ct_finds (w := 5) (by decide) fd5 _) ?_
        exact And.intro rfl rfl
    · by_cases bb : σ 52 3 = σ 52 3
      · by_cases hp : ptO ls lt f u n
        · obtain ⟨⟨f0, n0, fn⟩, ⟨u0, -, un⟩⟩ := hp
          have hp1 : (0 ≤ f.toInt ∧ 0 ≤ n.toInt ∧ n.toInt ≤ (ls : Int) - f.toInt) := ⟨f0, n0, fn⟩
          have hp2 : (0 ≤ u.toInt ∧ 0 ≤ n.toInt ∧ n.toInt ≤ (lt : Int) - u.toInt) := ⟨u0, n0, un⟩
          obtain ⟨a, ea, rfl⟩ : ∃ a : Nat, f.toInt = a ∧ f = nI a := ⟨f.toInt.toNat, by omega, nI_of_toInt (by omega) (by omega)⟩
          obtain ⟨b, eb, rfl⟩ : ∃ a : Nat, u.toInt = a ∧ u = nI a := ⟨u.toInt.toNat, by omega, nI_of_toInt (by omega) (by omega)⟩
          obtain ⟨c, ec, rfl⟩ : ∃ a : Nat, n.toInt = a ∧ n = nI a := ⟨n.toInt.toNat, by omega, nI_of_toInt (by omega) (by omega)⟩
          have k1 : a + c ≤ ls := by omega
          have k2 : b + c ≤ lt := by omega
          refine ⟨nI c, upr σ 42 (va_cpy (σ 42) (σ 42) a b c), _, ?_, ctm_copy (s := 3) (t := 3) (σ := upr σ 42 (va_cpy (σ 42) (σ 42) a b c)) (by decide) (by decide) b1 b2 bb l1 l2 s3 t3 k1 k2, J_copy h (s := 3) (t := 3) (by decide) (by decide) l1 l2 k1 k2⟩
          refine Ct.of (by decide +kernel) zX4_copy (Nat.le_of_ble_eq_true rfl) (by decide) (fun X go => ?_)
          refine go.1 [] 100 _ _ _ _ ?_
          refine cl (isSh (b := true) rfl _) ?_
          refine br_f (by decide) ?_
          refine cl (isSh (b := true) rfl _) ?_
          refine br_f (by decide) ?_
          refine Exists.intro (3) (And.intro ⟨rfl, by decide, by omega⟩ ?_)
          refine Exists.intro (3) (And.intro ⟨rfl, by decide, by omega⟩ ?_)
          refine br_f (fun q => b1 (s1.symm.trans q)) ?_
          refine br_f (fun q => b2 (t1.symm.trans q)) ?_
          refine br_t ((s1.trans bb).trans t1.symm) ?_
          refine cl (ct_hasPart_3 l1 s2 (nI a) (nI c)) ?_
          rw [dec_t hp1]
          refine br_f (by decide) ?_
          refine cl (ct_hasPart_3 l2 t2 (nI b) (nI c)) ?_
          rw [dec_t hp2]
          refine br_f (by decide) ?_
          refine Exists.intro a (Exists.intro b (Exists.intro c (And.intro ⟨rfl, rfl, rfl, by omega, by omega, by omega, by omega, by omega⟩ ?_)))
          exact And.intro rfl rfl
        · refine Pair_fd h 0 ?_ (ctm_copy_bad (s := 3) (t := 3) (σ := tel σ 0) (by decide) (by decide) b1 b2 bb l1 l2 s3 t3 hp)
          unfold ptO at hp
          refine Ct.of (by decide +kernel) zX4_copy (Nat.le_of_ble_eq_true rfl) (by decide) (fun X go => ?_)
          refine go.1 [] 100 _ _ _ _ ?_
          refine cl (isSh (b := true) rfl _) ?_
          refine br_f (by decide) ?_
          refine cl (isSh (b := true) rfl _) ?_
          refine br_f (by decide) ?_
          refine Exists.intro (3) (And.intro ⟨rfl, by decide, by omega⟩ ?_)
          refine Exists.intro (3) (And.intro ⟨rfl, by decide, by omega⟩ ?_)
          refine br_f (fun q => b1 (s1.symm.trans q)) ?_
          refine br_f (fun q => b2 (t1.symm.trans q)) ?_
          refine br_t ((s1.trans bb).trans t1.symm) ?_
          refine cl (ct_hasPart_3 l1 s2 f n) ?_
          by_cases p1 : (0 ≤ f.toInt ∧ 0 ≤ n.toInt ∧ n.toInt ≤ (ls : Int) - f.toInt)
          · rw [dec_t p1]
            refine br_f (by decide) ?_
            refine cl (ct_hasPart_3 l2 t2 u n) ?_
            rw [dec_f (fun p2 => hp ⟨p1, p2⟩)]
            refine br_t (by decide) ?_
            refine cl (ct_fd (w := 0) (by decide) rfl _) ?_
            exact And.intro rfl rfl
          · rw [dec_f p1]
            refine br_t (by decide) ?_
            refine cl (ct_fd (w := 0) (by decide) rfl _) ?_
            exact And.intro rfl rfl
      · refine Pair_fd h 2 ?_ ?_
        · refine Ct.of (by decide +kernel) zX4_copy (Nat.le_of_ble_eq_true rfl) (by decide) (fun X go => ?_)
          refine go.1 [] 100 _ _ _ _ ?_
          refine cl (isSh (b := true) rfl _) ?_
          refine br_f (by decide) ?_
          refine cl (isSh (b := true) rfl _) ?_
          refine br_f (by decide) ?_
          refine Exists.intro (3) (And.intro ⟨rfl, by decide, by omega⟩ ?_)
          refine Exists.intro (3) (And.intro ⟨rfl, by decide, by omega⟩ ?_)
          refine br_f (fun q => b1 (s1.symm.trans q)) ?_
          refine br_f (fun q => b2 (t1.symm.trans q)) ?_
          refine br_f (fun q => bb ((s1.symm.trans q).trans t1)) ?_
          refine cl (ct_fd (w := 2) (by decide) rfl _) ?_
          exact And.intro rfl rfl
        · refine Ct.of (by decide +kernel) zX5_copy (Nat.le_of_ble_eq_true rfl) (by decide) (fun X go => ?_)
          refine go.1 [] 100 _ _ _ _ ?_
          refine cl (isOM (b := true) rfl _) ?_
          refine br_f (by decide) ?_
          refine cl (isOM (b := true) rfl _) ?_
          refine br_f (by decide) ?_
          refine Exists.intro (3) (And.intro ⟨rfl, by decide, by omega⟩ ?_)
          refine br_f (show ¬ tel σ 2 52 3 = 0 from b1) ?_
          refine Exists.intro (3) (And.intro ⟨rfl, by decide, by omega⟩ ?_)
          refine br_f (show ¬ tel σ 2 52 3 = 0 from b2) ?_
          refine Exists.intro (3) (And.intro ⟨rfl, by decide, by omega⟩ ?_)
          refine Exists.intro (3) (And.intro ⟨rfl, by decide, by omega⟩ ?_)
          refine br_f (show ¬ tel σ 2 52 3 = tel σ 2 52 3 from bb) ?_
          refine cl (ct_finds (w := 2) (by decide) fd2 _) ?_
          exact And.intro rfl rfl

theorem P_copy {σ : Sg} (h : J σ) (s f t u n : Int32) : Pair mX4_copy mX5_copy [.int s, .int f, .int t, .int u, .int n] σ := by
  cases hs : bI s 0 3 with
  | false =>
      refine Pair_fd h 0 ?_ ?_
      · refine Ct.of (by decide +kernel) zX4_copy (Nat.le_of_ble_eq_true rfl) (by decide) (fun X go => ?_)
        refine go.1 [] 100 _ _ _ _ ?_
        refine cl (isSh hs _) ?_
        refine br_t (by decide) ?_
        refine cl (ct_fd (w := 0) (by decide) rfl _) ?_
        exact And.intro rfl rfl
      · refine Ct.of (by decide +kernel) zX5_copy (Nat.le_of_ble_eq_true rfl) (by decide) (fun X go => ?_)
        refine go.1 [] 100 _ _ _ _ ?_
        refine cl (isOM hs _) ?_
        refine br_t (by decide) ?_
        refine cl (ct_finds (w := 0) (by decide) fd0 _) ?_
        exact And.intro rfl rfl
  | true =>
    cases ht : bI t 0 3 with
    | false =>
      refine Pair_fd h 0 ?_ ?_
      · refine Ct.of (by decide +kernel) zX4_copy (Nat.le_of_ble_eq_true rfl) (by decide) (fun X go => ?_)
        refine go.1 [] 100 _ _ _ _ ?_
        refine cl (isSh hs _) ?_
        refine br_f (by decide) ?_
        refine cl (isSh ht _) ?_
        refine br_t (by decide) ?_
        refine cl (ct_fd (w := 0) (by decide) rfl _) ?_
        exact And.intro rfl rfl
      · refine Ct.of (by decide +kernel) zX5_copy (Nat.le_of_ble_eq_true rfl) (by decide) (fun X go => ?_)
        refine go.1 [] 100 _ _ _ _ ?_
        refine cl (isOM hs _) ?_
        refine br_f (by decide) ?_
        refine cl (isOM ht _) ?_
        refine br_t (by decide) ?_
        refine cl (ct_finds (w := 0) (by decide) fd0 _) ?_
        exact And.intro rfl rfl
    | true =>
      obtain ⟨a, -, ha, rfl⟩ := bI_n hs (by decide) (by decide)
      obtain ⟨b, -, hb, rfl⟩ := bI_n ht (by decide) (by decide)
      have ha : a = 0 ∨ a = 1 ∨ a = 2 ∨ a = 3 := by omega
      have hb : b = 0 ∨ b = 1 ∨ b = 2 ∨ b = 3 := by omega
      rcases ha with rfl | rfl | rfl | rfl <;> rcases hb with rfl | rfl | rfl | rfl
      · exact P_copy_0_0 h f u n
      · exact P_copy_0_1 h f u n
      · exact P_copy_0_2 h f u n
      · exact P_copy_0_3 h f u n
      · exact P_copy_1_0 h f u n
      · exact P_copy_1_1 h f u n
      · exact P_copy_1_2 h f u n
      · exact P_copy_1_3 h f u n
      · exact P_copy_2_0 h f u n
      · exact P_copy_2_1 h f u n
      · exact P_copy_2_2 h f u n
      · exact P_copy_2_3 h f u n
      · exact P_copy_3_0 h f u n
      · exact P_copy_3_1 h f u n
      · exact P_copy_3_2 h f u n
      · exact P_copy_3_3 h f u n
