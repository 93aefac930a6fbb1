/-! DEAL -/
def inA (P : Nat → Bool) : Nat → Nat → Option Nat
  | 0, _ => none
  | d + 1, j => if P j = true then some j else inA P d (j + 1)
def inU (tr : Nat → Sg) : Nat → Nat → Sg → Sg
  | 0, _, U => U
  | d + 1, j, _ => inU tr d (j + 1) (tr j)
def ouA (P : Nat → Nat → Bool) (n : Nat) : Nat → Nat → Option (Nat × Nat)
  | 0, _ => none
  | d + 1, i => match inA (P i) (n - (i + 1)) (i + 1) with
    | some j => some (i, j)
    | none => ouA P n d (i + 1)
def ouU (P : Nat → Nat → Bool) (tr : Nat → Nat → Sg) (n : Nat) : Nat → Nat → Sg → Sg
  | 0, _, U => U
  | d + 1, i, U => match inA (P i) (n - (i + 1)) (i + 1) with
    | some j => tr i j
    | none => ouU P tr n d (i + 1) (inU (tr i) (n - (i + 1)) (i + 1) U)
theorem inU_Z {tr : Nat → Sg} {n : Nat} (h : ∀ j, j < n → ZT (tr j)) : ∀ d j U, j + d = n → ZT U → ZT (inU tr d j U)
  | 0, _, _, _, z => z
  | d + 1, j, _, hj, _ => inU_Z h d (j + 1) (tr j) (by omega) (h j (by omega))
theorem inA_lt {P : Nat → Bool} {x : Nat} : ∀ d j, inA P d j = some x → x < j + d
  | 0, _, h => by cases h
  | d + 1, j, h => by
    unfold inA at h
    split at h
    · cases h; omega
    · have := inA_lt d (j + 1) h; omega
theorem inU_Z2 {tr : Nat → Sg} {n : Nat} (h : ∀ j, j < n → ZT (tr j)) {d j : Nat} {U : Sg} (hj : j + d ≤ n) (z : ZT U) : ZT (inU tr d j U) := by
  exact inU_Z (n := j + d) (fun i hi => h i (by omega)) d j U rfl z
theorem ouA_lt {P : Nat → Nat → Bool} {n i j : Nat} : ∀ d a, a + d = n → ouA P n d a = some (i, j) → i < n ∧ j < n
  | 0, _, _, h => by cases h
  | d + 1, a, ha, h => by
    unfold ouA at h
    cases hx : inA (P a) (n - (a + 1)) (a + 1) with
    | none => rw [hx] at h; exact ouA_lt d (a + 1) (by omega) h
    | some x =>
      rw [hx] at h
      have := inA_lt _ _ hx
      cases h
      omega
theorem ouU_Z {P : Nat → Nat → Bool} {tr : Nat → Nat → Sg} {n : Nat} (h : ∀ i j, i < n → j < n → ZT (tr i j)) : ∀ d a U, a + d = n → ZT U → ZT (ouU P tr n d a U)
  | 0, _, _, _, z => z
  | d + 1, a, U, ha, z => by
    unfold ouU
    cases hx : inA (P a) (n - (a + 1)) (a + 1) with
    | none => exact ouU_Z h d (a + 1) _ (by omega) (inU_Z2 (fun j hj => h a j (by omega) hj) (by omega) z)
    | some x =>
      have := inA_lt _ _ hx
      exact h a x (by omega) (by omega)
theorem ct_swapAheadG {n h m a b : Nat} {σ U T : Sg} (e : ∀ j, j < 9 → Tq 1 σ j = T j) (v : VT n h T) (z1 : ZT (Tq 1 σ)) (zu : ZT U) (hm : h + m ≤ 2000) (ha : a < n) (hb : b < n) {nv : Int32} (en : nv = nI m) : Ct mX4_swapAhead [.ref 0, .int (nI a), .int (nI b), .int nv] (putSq 10 U σ) (Ex none (putSq 10 (hrsT n (swT T a b) m) σ)) := by
  have h8 := v.1.1
  have cb := ct_becU (σ := σ) zu z1
  rw [putSq_cong e] at cb
  refine Ct.of (by decide +kernel) zX4_swapAhead (Nat.le_of_ble_eq_true rfl) (by decide) (fun X go => ?_)
  refine go.1 [] 60 _ _ _ _ ?_
  refine cl cb ?_
  refine cl (ct_exchange_10 (show a < 8 by omega) (show b < 8 by omega) rfl rfl T σ) ?_
  refine cl (ct_passHours_10 (VT_sw v ha hb) hm en σ) ?_
  exact And.intro rfl rfl
theorem putSq_43 {U σ : Sg} {f : Nat → Int32} : putSq 10 U (upr σ 43 f) = upr (putSq 10 U σ) 43 f := by
  funext i
  rcases sq_cases 10 i with ⟨j, hj, rfl⟩ | h
  · rw [putSq_in hj, upr_out (by omega), putSq_in hj]
  · rw [putSq_out h]
    by_cases e : i = 43
    · subst e; rw [upr_in, upr_in]
    · rw [upr_out e, upr_out e, putSq_out h]
def dlA (R : Option (Nat × Nat)) : Int32 := match R with
  | some (i, j) => nI (10 * i + j)
  | none => fd 3
def dlE (R : Option (Nat × Nat)) (σ : Sg) : Sg := match R with
  | some _ => σ
  | none => tel σ 3
def dlM (R : Option (Nat × Nat)) (σ : Sg) : Sg := match R with
  | some _ => σ
  | none => telM σ 3
theorem dl113 {X : Kt} {rt : Rt} (go : Go kX5_deal rt X) {σ1 S2 : Sg} {nv : Int32} {i j : Nat} {pi pj qj : Int32} (cs : Ct mX5_swaps [.ref 45, .int (nI i), .int (nI j)] (sv σ1) (Ex none S2)) (c1 : Ct mX5_coinOf [.ref 45, .int (nI j), .int nv] S2 (Ex (some (.int qj)) (sv σ1))) (bo : Bool)
    (skip : (bo && decide (pj < qj)) = false → X 56 [(0, .ref 45), (1, .int nv), (2, .int (-1)), (3, .int (nI i)), (4, .int (nI j + 1))] [] (sv σ1)) (found : (bo && decide (pj < qj)) = true → X 56 [(0, .ref 45), (1, .int nv), (2, .int (nI (10 * i + j))), (3, .int (nI i)), (4, .int (nI j + 1))] [] (sv σ1)) :
    X 113 [(0, .ref 45), (1, .int nv), (2, .int (-1)), (3, .int (nI i)), (4, .int (nI j)), (5, .int pi), (6, .int pj), (7, .int (zb bo))] [] (sv σ1) := by
  refine go.1 [56] 100 _ _ _ _ ?_
  refine cl cs ?_
  refine cl c1 ?_
  refine And.intro (fun (y : qj ≤ pj) => ?_) (fun (y : ¬ qj ≤ pj) => ?_)
  · refine br_t (by decide) ?_
    refine go.2 [0, 1, 2, 3, 4] _ _ _ _ ?_
    exact skip (by rw [decide_eq_false (Int32.not_lt.mpr y), Bool.and_false])
  · cases bo with
    | false =>
      refine br_t (by decide) ?_
      refine br_t (by decide) ?_
      refine go.2 [0, 1, 2, 3, 4] _ _ _ _ ?_
      exact skip rfl
    | true =>
      refine br_f (by decide) ?_
      refine br_f (by decide) ?_
      have fo := found (by rw [decide_eq_true (Int32.not_le.mp y)]; rfl)
      rw [show nI (10 * i + j) = (10 : Int32) * nI i + nI j by rw [show (10 : Int32) = nI 10 from rfl, pk_mul, nI_add]] at fo
      refine go.2 [0, 1, 2, 3, 4] _ _ _ _ ?_
      exact fo
theorem ctm_deal {σ1 T : Sg} {n hh m : Nat} (vT : VT n hh T) (h9 : hh ≤ 999) (hm2 : (m : Int) ≤ 48) {nv : Int32} (hn : bI nv 1 48 = true) (en : nv = nI m) (late : ¬ 999 < hh + m) (f1 : σ1 46 = flat T) (z8' : Zr 78 (σ1 48)) {p : Nat → Int32} (hp : p = fun a => cn n m a T) {q : Nat → Nat → Nat → Int32} (hq : q = fun i j a => cn n m a (swT T i j)) {P : Nat → Nat → Bool} (hP : P = fun i j => decide (p i < q i j i) && decide (p j < q i j j)) {R : Option (Nat × Nat)} (hR : R = ouA P n n 0) : Ct mX5_deal [.ref 45, .int nv] σ1 (Ex (some (.int (dlA R))) (dlM R (sv σ1))) := by
  have hn8 := vT.1.1
  have hm : hh + m ≤ 2000 := by omega
  have z6' : Zr 78 (σ1 46) := by rw [f1]; exact flat_z _
  have fs : sv σ1 46 = flat T := f1
  have hn1 : sv σ1 46 1 = nI n := by rw [fs]; exact vT.1.2.2.1
  have c0 : ∀ a, a < 8 → Ct mX5_coinOf [.ref 45, .int (nI a), .int nv] (sv σ1) (Ex (some (.int (p a))) (sv σ1)) := by
    intro a ha
    rw [hp]
    exact ct_coin0 vT f1 hm ha en
  have c1 : ∀ i j a, i < n → j < n → a < 8 → Ct mX5_coinOf [.ref 45, .int (nI a), .int nv] (MS (sv σ1) (swT T i j)) (Ex (some (.int (q i j a))) (sv σ1)) := by
    intro i j a hi hj ha
    rw [hq]
    exact ct_coinOf (VT_sw vT hi hj) hm ha z6' en
  have cs : ∀ i j, i < n → j < n → Ct mX5_swaps [.ref 45, .int (nI i), .int (nI j)] (sv σ1) (Ex none (MS (sv σ1) (swT T i j))) := by
    intro i j hi hj
    have c := ct_swaps (show i < 8 by omega) (show j < 8 by omega) (av := nI i) (bv := nI j) rfl rfl (sv σ1) T
    rw [MSe fs] at c
    exact c
  refine Ct.of (by decide +kernel) zX5_deal (Nat.le_of_ble_eq_true rfl) (by decide) (fun X go => ?_)
  refine go.1 [37] 100 _ _ _ _ ?_
  have E : ∀ i', i' ≤ n → ∀ i j, i < n → j < n → R = some (i, j) → X 37 [(0, .ref 45), (1, .int nv), (2, .int (nI (10 * i + j))), (3, .int (nI i'))] [] (sv σ1) := by
    intro i' hi' i j hi hj hRs
    refine go.1 [] 60 _ _ _ _ ?_
    refine Exists.intro (1) (And.intro ⟨rfl, by omega, by omega⟩ ?_)
    rw [hRs]
    refine And.intro (fun _ => ?_) (fun _ => ?_)
    · refine br_t (nI_pos' (by omega)) ?_
      exact And.intro rfl rfl
    · refine br_t (nI_pos' (by omega)) ?_
      refine br_t (nI_pos' (by omega)) ?_
      exact And.intro rfl rfl
  have E2 : ∀ i j, i < n → j < n → R = some (i, j) → X 56 [(0, .ref 45), (1, .int nv), (2, .int (nI (10 * i + j))), (3, .int (nI i)), (4, .int (nI (j + 1)))] [] (sv σ1) := by
    intro i j hi hj hRs
    have Ei := E (i + 1) (by omega) i j hi hj hRs
    rw [nI_succ i] at Ei
    refine go.1 [37] 60 _ _ _ _ ?_
    refine Exists.intro (1) (And.intro ⟨rfl, by omega, by omega⟩ ?_)
    refine And.intro (fun _ => ?_) (fun _ => ?_)
    · refine go.2 [0, 1, 2, 3] _ _ _ _ ?_
      exact Ei
    · refine br_t (nI_pos' (by omega)) ?_
      refine go.2 [0, 1, 2, 3] _ _ _ _ ?_
      exact Ei
  have L : ∀ d i, i + d = n → ouA P n d i = R → X 37 [(0, .ref 45), (1, .int nv), (2, .int (-1)), (3, .int (nI i))] [] (sv σ1) := by
    intro d
    induction d with
    | zero =>
      intro i hi hA
      have hi : i = n := by omega
      subst hi
      have hA : R = none := hA.symm
      refine go.1 [37] 60 _ _ _ _ ?_
      refine Exists.intro (1) (And.intro ⟨rfl, by omega, by omega⟩ ?_)
      refine br_t (by rw [hn1]; exact nI_le (Nat.le_refl _) (by omega)) ?_
      refine br_f (by decide) ?_
      refine cl (ct_finds (w := 3) (by decide) fd3 _) ?_
      rw [hA]
      exact And.intro rfl rfl
    | succ d ih =>
      intro i hi hA
      have LL : ∀ e j, j + e = n → inA (P i) e j = inA (P i) (n - (i + 1)) (i + 1) → X 56 [(0, .ref 45), (1, .int nv), (2, .int (-1)), (3, .int (nI i)), (4, .int (nI j))] [] (sv σ1) := by
        intro e
        induction e with
        | zero =>
          intro j hj hA'
          have hj : j = n := by omega
          subst hj
          have hA' : inA (P i) (j - (i + 1)) (i + 1) = none := hA'.symm
          unfold ouA at hA
          rw [hA'] at hA
          have ihi := ih (i + 1) (by omega) hA
          rw [nI_succ] at ihi
          refine go.1 [37] 60 _ _ _ _ ?_
          refine Exists.intro (1) (And.intro ⟨rfl, by omega, by omega⟩ ?_)
          refine br_t (by rw [hn1]; exact nI_le (Nat.le_refl _) (by omega)) ?_
          refine go.2 [0, 1, 2, 3] _ _ _ _ ?_
          exact ihi
        | succ e ihe =>
          intro j hj hA'
          have hi8 : i < 8 := by omega
          have hj8 : j < 8 := by omega
          have skip : P i j = false → X 56 [(0, .ref 45), (1, .int nv), (2, .int (-1)), (3, .int (nI i)), (4, .int (nI (j + 1)))] [] (sv σ1) := fun hPf => ihe (j + 1) (by omega) (by rw [← hA']; exact (if_neg (by rw [hPf]; decide)).symm)
          have found : P i j = true → X 56 [(0, .ref 45), (1, .int nv), (2, .int (nI (10 * i + j))), (3, .int (nI i)), (4, .int (nI (j + 1)))] [] (sv σ1) := by
            intro hPt
            have hA2 : inA (P i) (n - (i + 1)) (i + 1) = some j := by rw [← hA']; exact if_pos hPt
            refine E2 i j (by omega) (by omega) ?_
            rw [← hA]
            unfold ouA
            rw [hA2]
          have ePd : P i j = (decide (p i < q i j i) && decide (p j < q i j j)) := by rw [hP]
          rw [nI_succ j] at skip found
          refine go.1 [113] 100 _ _ _ _ ?_
          refine Exists.intro (1) (And.intro ⟨rfl, by omega, by omega⟩ ?_)
          refine br_f (by rw [hn1]; exact nI_ge (by omega) (by omega)) ?_
          refine br_f (by decide) ?_
          refine cl (c0 i hi8) ?_
          refine cl (c0 j hj8) ?_
          refine cl (cs i j (by omega) (by omega)) ?_
          refine cl (c1 i j i (by omega) (by omega) hi8) ?_
          have B : ∀ bo : Bool, bo = decide (p i < q i j i) → X 113 [(0, .ref 45), (1, .int nv), (2, .int (-1)), (3, .int (nI i)), (4, .int (nI j)), (5, .int (p i)), (6, .int (p j)), (7, .int (zb bo))] [] (sv σ1) := by
            intro bo hbo
            refine dl113 go (cs i j (by omega) (by omega)) (c1 i j j (by omega) (by omega) hj8) bo (fun g => ?_) (fun g => ?_)
            · exact skip (by rw [ePd, ← hbo]; exact g)
            · exact found (by rw [ePd, ← hbo]; exact g)
          refine And.intro (fun (z : q i j i ≤ p i) => ?_) (fun (z : ¬ q i j i ≤ p i) => ?_)
          · exact B false (decide_eq_false (Int32.not_lt.mpr z)).symm
          · exact B true (decide_eq_true (Int32.not_le.mp z)).symm
      refine go.1 [56] 60 _ _ _ _ ?_
      refine Exists.intro (1) (And.intro ⟨rfl, by omega, by omega⟩ ?_)
      refine br_f (by rw [hn1]; exact nI_ge (by omega) (by omega)) ?_
      refine br_f (by decide) ?_
      have L2 := LL (n - (i + 1)) (i + 1) (by omega) rfl
      rw [nI_succ i] at L2
      exact L2
  refine cl (isDM hn _) ?_
  refine br_f (by decide) ?_
  refine cl (tl h9 f1 vT.1.2.2.2 en (by omega) (decide_eq_false late)) ?_
  refine br_t (by decide) ?_
  refine cl (ct_sv z6' z8') ?_
  exact L n 0 (by omega) hR.symm
theorem P_deal {σ : Sg} (h : J σ) (nv : Int32) : Pair mX4_deal mX5_deal [.int nv] σ := by
  have f46 := J46 h
  obtain ⟨n, hh, v, h9⟩ := h.1
  have hn8 := v.1.1
  have z1 := h.2.1.1
  have z10 := h.2.1.2.1
  have z46 := J_z46 h
  have z48 := h.2.2.2.1.1
  cases hn : bI nv 1 48 with
  | false =>
      refine Pair_fd h 0 ?_ ?_
      · refine Ct.of (by decide +kernel) zX4_deal (Nat.le_of_ble_eq_true rfl) (by decide) (fun X go => ?_)
        refine go.1 [] 100 _ _ _ _ ?_
        refine cl (ah_bad h9 v.1.2.2.2 1 48 (by decide) true hn) ?_
        refine br_f (by decide) ?_
        exact And.intro rfl rfl
      · refine Ct.of (by decide +kernel) zX5_deal (Nat.le_of_ble_eq_true rfl) (by decide) (fun X go => ?_)
        refine go.1 [] 100 _ _ _ _ ?_
        refine cl (isDM hn _) ?_
        refine br_t (by decide) ?_
        refine cl (ct_finds (w := 0) (by decide) fd0 _) ?_
        exact And.intro rfl rfl
  | true =>
    obtain ⟨m, hm1, hm2, en⟩ := bI_n hn (by decide) (by decide)
    by_cases late : 999 < hh + m
    · refine Pair_fd h 4 ?_ ?_
      · refine Ct.of (by decide +kernel) zX4_deal (Nat.le_of_ble_eq_true rfl) (by decide) (fun X go => ?_)
        refine go.1 [] 100 _ _ _ _ ?_
        refine cl (ah_late h9 v.1.2.2.2 1 48 (by decide) hn en (by omega) late) ?_
        refine br_f (by decide) ?_
        exact And.intro rfl rfl
      · refine Ct.of (by decide +kernel) zX5_deal (Nat.le_of_ble_eq_true rfl) (by decide) (fun X go => ?_)
        refine go.1 [] 100 _ _ _ _ ?_
        refine cl (isDM hn _) ?_
        refine br_f (by decide) ?_
        refine cl (tl h9 (σ := tel σ 4) f46 v.1.2.2.2 en (by omega) (decide_eq_true late)) ?_
        refine br_f (by decide) ?_
        refine cl (ct_finds (w := 4) (by decide) fd4 _) ?_
        exact And.intro rfl rfl
    · have hm : hh + m ≤ 2000 := by omega
      obtain ⟨T, hT⟩ : ∃ T, T = Tq 1 σ := ⟨_, rfl⟩
      obtain ⟨p, hp⟩ : ∃ p : Nat → Int32, p = fun a => cn n m a T := ⟨_, rfl⟩
      obtain ⟨q, hq⟩ : ∃ q : Nat → Nat → Nat → Int32, q = fun i j a => cn n m a (swT T i j) := ⟨_, rfl⟩
      obtain ⟨P, hP⟩ : ∃ P : Nat → Nat → Bool, P = fun i j => decide (p i < q i j i) && decide (p j < q i j j) := ⟨_, rfl⟩
      obtain ⟨tr, htr⟩ : ∃ tr : Nat → Nat → Sg, tr = fun i j => hrsT n (swT T i j) m := ⟨_, rfl⟩
      have vT : VT n hh T := by rw [hT]; exact v
      have zT : ZT T := by rw [hT]; exact z1
      have ztr : ∀ i j, i < n → j < n → ZT (tr i j) := by
        intro i j hi hj
        rw [htr]
        exact ZT_hrs hn8 (ZT_sw zT (by omega) (by omega)) m
      obtain ⟨R, hR⟩ : ∃ R, R = ouA P n n 0 := ⟨_, rfl⟩
      obtain ⟨S, hS⟩ : ∃ S, S = ouU P tr n n 0 (hrsT n T m) := ⟨_, rfl⟩
      have zS : ZT S := by rw [hS]; exact ouU_Z ztr n 0 _ (by omega) (ZT_hrs hn8 zT m)
      obtain ⟨pc, hpc⟩ : ∃ pc : Nat → Int32, pc = va_cpy (hrsT n T m 6) (σ 43) 0 0 8 := ⟨_, rfl⟩
      have epc : ∀ a, a < 8 → pc a = p a := by
        intro a ha
        rw [hpc, pk_cpy_in (Nat.zero_le _) (by omega), hp]
        show hrsT n T m 6 (0 + (a - 0)) = hrsT n T m 6 a
        rw [Nat.zero_add, Nat.sub_zero]
      obtain ⟨σ', hσ'⟩ : ∃ σ', σ' = upr σ 43 pc := ⟨_, rfl⟩
      have h' : J σ' := by
        rw [hσ']
        exact J_junk h (fun i hi => upr_out (by unfold Jc at hi; omega)) rfl rfl rfl (ZT_cong (fun j hj => by show σ (10 + j) = upr σ 43 pc (10 + j); rw [upr_out (by omega)]) z10) z48
      have e' : ∀ j, j < 9 → Tq 1 σ' j = T j := by
        intro j hj
        rw [hσ', hT]
        exact upr_out (show 1 + j ≠ 43 by omega)
      have z1' : ZT (Tq 1 σ') := ZT_cong (fun j hj => (e' j hj).symm) zT
      have c43 : ∀ U : Sg, ∀ a, a < 8 → putSq 10 U σ' 43 a = p a := by
        intro U a ha
        rw [← epc a ha, hσ']
        rfl
      have cnn : ∀ U : Sg, putSq 10 U σ' 1 9 = nI n := by
        intro U
        rw [hσ']
        exact v.1.2.2.1
      have csw : ∀ i j U, i < n → j < n → ZT U → Ct mX4_swapAhead [.ref 0, .int (nI i), .int (nI j), .int nv] (putSq 10 U σ') (Ex none (putSq 10 (tr i j) σ')) := by
        intro i j U hi hj hU
        rw [htr]
        exact ct_swapAheadG e' vT z1' hU hm hi hj en
      have ctr : ∀ i j a, putSq 10 (tr i j) σ' 16 a = q i j a := by
        intro i j a
        rw [htr, hq]
        rfl
      refine ⟨dlA R, dlE R (putSq 10 S σ'), dlM R (sv (dlE R (putSq 10 S σ'))), ?_, ?_, ?_⟩
      · refine Ct.of (by decide +kernel) zX4_deal (Nat.le_of_ble_eq_true rfl) (by decide) (fun X go => ?_)
        refine go.1 [56] 100 _ _ _ _ ?_
        have L : ∀ d i U, i + d = n → ZT U → ouA P n d i = R → ouU P tr n d i U = S → X 56 [(0, .ref 0), (1, .int nv), (2, .int 0), (3, .int (nI i))] [] (putSq 10 U σ') := by
          intro d
          induction d with
          | zero =>
            intro i U hi hU hA hS2
            have hi : i = n := by omega
            subst hi
            have hA : R = none := hA.symm
            have hS2 : S = U := hS2.symm
            subst hS2
            refine go.1 [56] 60 _ _ _ _ ?_
            refine br_t (by rw [cnn]; exact nI_le (Nat.le_refl _) (by omega)) ?_
            refine cl (ct_fd (w := 3) (by decide) rfl _) ?_
            rw [hA]
            exact And.intro rfl rfl
          | succ d ih =>
            intro i U hi hU hA hS2
            have LL : ∀ e j U', j + e = n → ZT U' → inA (P i) e j = inA (P i) (n - (i + 1)) (i + 1) → inU (tr i) e j U' = inU (tr i) (n - (i + 1)) (i + 1) U → X 72 [(0, .ref 0), (1, .int nv), (2, .int 0), (3, .int (nI i)), (4, .int (nI j))] [] (putSq 10 U' σ') := by
              intro e
              induction e with
              | zero =>
                intro j U' hj hU' hA' hS'
                have hj : j = n := by omega
                subst hj
                have hA' : inA (P i) (j - (i + 1)) (i + 1) = none := hA'.symm
                have hS' : inU (tr i) (j - (i + 1)) (i + 1) U = U' := hS'.symm
                unfold ouA at hA
                rw [hA'] at hA
                unfold ouU at hS2
                rw [hA', hS'] at hS2
                have ihi := ih (i + 1) U' (by omega) hU' hA hS2
                rw [nI_succ] at ihi
                refine go.1 [56] 60 _ _ _ _ ?_
                refine br_t (by rw [cnn]; exact nI_le (Nat.le_refl _) (by omega)) ?_
                refine go.2 [0, 1, 2, 3] _ _ _ _ ?_
                exact ihi
              | succ e ihe =>
                intro j U' hj hU' hA' hS'
                have hi8 : i < 8 := by omega
                have hj8 : j < 8 := by omega
                have skip : P i j = false → X 72 [(0, .ref 0), (1, .int nv), (2, .int 0), (3, .int (nI i)), (4, .int (nI (j + 1)))] [] (putSq 10 (tr i j) σ') := fun hPf => ihe (j + 1) (tr i j) (by omega) (ztr i j (by omega) (by omega)) (by rw [← hA']; exact (if_neg (by rw [hPf]; decide)).symm) (by rw [← hS']; rfl)
                rw [nI_succ] at skip
                refine go.1 [72] 60 _ _ _ _ ?_
                refine br_f (by rw [cnn]; exact nI_ge (by omega) (by omega)) ?_
                refine cl (csw i j U' (by omega) (by omega) hU') ?_
                refine Exists.intro (i) (And.intro ⟨rfl, by omega, by omega⟩ ?_)
                refine Exists.intro (i) (And.intro ⟨rfl, by omega, by omega⟩ ?_)
                rw [c43 _ i hi8, show putSq 10 (tr i j) σ' 16 i = q i j i from ctr i j i]
                refine And.intro (fun (z : q i j i ≤ p i) => ?_) (fun (z : ¬ q i j i ≤ p i) => ?_)
                · exact skip (by rw [hP]; show (decide (p i < q i j i) && _) = false; rw [decide_eq_false (Int32.not_lt.mpr z)]; rfl)
                · refine Exists.intro (j) (And.intro ⟨rfl, by omega, by omega⟩ ?_)
                  refine Exists.intro (j) (And.intro ⟨rfl, by omega, by omega⟩ ?_)
                  rw [c43 _ j hj8, show putSq 10 (tr i j) σ' 16 j = q i j j from ctr i j j]
                  refine And.intro (fun (y : q i j j ≤ p j) => ?_) (fun (y : ¬ q i j j ≤ p j) => ?_)
                  · exact skip (by rw [hP]; show (_ && decide (p j < q i j j)) = false; rw [decide_eq_false (Int32.not_lt.mpr y), Bool.and_false])
                  · have hPt : P i j = true := by
                      rw [hP]
                      show (decide (p i < q i j i) && decide (p j < q i j j)) = true
                      rw [decide_eq_true (Int32.not_le.mp z), decide_eq_true (Int32.not_le.mp y)]
                      rfl
                    have hA2 : inA (P i) (n - (i + 1)) (i + 1) = some j := by rw [← hA']; exact if_pos hPt
                    have hA3 : R = some (i, j) := by
                      rw [← hA]
                      unfold ouA
                      rw [hA2]
                    have hS3 : S = tr i j := by
                      rw [← hS2]
                      unfold ouU
                      rw [hA2]
                    rw [hA3, hS3]
                    refine And.intro ?_ rfl
                    show some (Value.int (nI 10 * nI i + nI j)) = some (Value.int (nI (10 * i + j)))
                    rw [pk_mul, nI_add]
            refine go.1 [72] 60 _ _ _ _ ?_
            refine br_f (by rw [cnn]; exact nI_ge (by omega) (by omega)) ?_
            have L2 := LL (n - (i + 1)) (i + 1) U (by omega) hU rfl rfl
            rw [nI_succ i] at L2
            exact L2
        have cp := ct_passHours_10 vT hm en σ
        have cb := ct_become_10_1 z10 z1
        rw [← hT] at cb
        refine cl (ah_ok h9 v.1.2.2.2 1 48 (by decide) hn en (by omega) late) ?_
        refine br_t (by decide) ?_
        refine cl cb ?_
        refine cl cp ?_
        refine Exists.intro 0 (Exists.intro 0 (Exists.intro 8 (And.intro ⟨rfl, rfl, rfl, by decide, by decide, by decide, by decide, by decide⟩ ?_)))
        have L0 := L n 0 (hrsT n T m) (by omega) (ZT_hrs hn8 zT m) hR.symm hS.symm
        rw [hσ', putSq_43, hpc] at L0
        exact L0
      · generalize hσ1 : dlE R (putSq 10 S σ') = σ1
        have f1 : σ1 46 = flat T := by
          rw [← hσ1, hT, ← f46]
          unfold dlE
          split <;> (rw [hσ']; rfl)
        have z8' : Zr 78 (σ1 48) := by
          rw [← hσ1]
          unfold dlE
          split <;> (rw [hσ']; exact z48)
        have z6' : Zr 78 (σ1 46) := by rw [f1]; exact flat_z _
        exact ctm_deal vT h9 hm2 hn en late f1 z8' hp hq hP hR
      · unfold dlE dlM
        split
        · exact J_tr h' zS
        · rw [sv_tel]
          exact J_tell (J_tr h' zS) 3
