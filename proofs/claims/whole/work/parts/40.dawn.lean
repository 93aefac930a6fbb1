/-! DAWN, NEVER -/
def dwP (n m s : Nat) (p : Int32) (T : Sg) (k : Nat) : Bool := decide (hrsT n (layT T n (od n k)) m 4 s = p)
theorem ctc_dawn {σ : Sg} (h : J σ) {n hh m s : Nat} (v : VT n hh (Tq 1 σ)) (h9 : hh ≤ 999) (h6 : n ≤ 6) (hm : m ≤ 24) (late : ¬ 999 < hh + m) (hs : s < n) {p nv : Int32} (hp : bI p 0 11 = true) (hn : bI nv 0 24 = true) (en : nv = nI m) {r : Nat} (hr : firstN (dwP n m s p (Tq 1 σ)) (nOd n) 0 = r) : Ct mX4_dawn [.ref 0, .int (nI s), .int p, .int nv] σ (fun a σ' => (r < nOd n → a = some (.int (nI (od n r s))) ∧ OkC σ σ') ∧ (¬ r < nOd n → a = some (.int (fd 3)) ∧ ∃ τ, OkC σ τ ∧ σ' = tel τ 3)) := by
  have z1 := h.2.1.1
  have z10 := h.2.1.2.1
  have hss : bI (nI s) 0 ((n : Int) - 1) = true := stn_t v.1.1 hs
  have e10 := v.1.2.2.2
  have e9 := v.1.2.2.1
  obtain ⟨n0, n7⟩ := nOd_pos h6
  have vσ := v
  obtain ⟨T, hT⟩ : ∃ T : Sg, T = Tq 1 σ := ⟨_, rfl⟩
  rw [← hT] at v z1 hr
  generalize hN : nOd n = N at n0 n7 hr ⊢
  refine Ct.of (by decide +kernel) zX4_dawn (Nat.le_of_ble_eq_true rfl) (by decide) (fun X go => ?_)
  refine go.1 [55] 100 _ _ _ _ ?_
  have L : ∀ d k, k + d = N → firstN (dwP n m s p T) d k = r → ∀ τ : Sg, OkC σ τ → τ 28 1 = nI n → (0 < d → ∀ i, i < n → τ 29 i = nI (od n k i)) → X 55 [(0, .ref 0), (1, .int (nI s)), (2, .int p), (3, .int nv), (4, .int 0), (5, .int (nI N)), (6, .int (nI k))] [] τ := by
    intro d
    induction d with
    | zero =>
      intro k hk hf τ o e1 e2
      have hf : r = k := hf.symm
      refine go.1 [55] 40 _ _ _ _ ?_
      refine br_t (nI_le (by omega) (by omega)) ?_
      refine cl (ct_fd (w := 3) (by decide) rfl _) ?_
      exact And.intro (fun z => absurd z (by omega)) (fun _ => And.intro rfl ⟨τ, o, rfl⟩)
    | succ d ih =>
      intro k hk hf τ o e1 e2
      have hkN : k < nOd n := by omega
      have e2 := e2 (by omega)
      have ol := od_lt h6 hkN
      have vl := VT_lay v ol (od_inj h6 hkN)
      have c1 := ct_tryG (fun j hj => by rw [hT]; exact OkC_1 o j hj) v z1 o.2 ol e2
      have c2 := ct_passHours_10 vl (show hh + m ≤ 2000 by omega) en τ
      have o1 : OkC σ (putSq 10 (hrsT n (layT T n (od n k)) m) τ) := OkC_put o (ZT_hrs (by omega) (ZT_lay z1 (by omega) _) m)
      refine go.1 [55] 80 _ _ _ _ ?_
      refine br_f (nI_ge (by omega) (by omega)) ?_
      refine cl c1 ?_
      refine cl c2 ?_
      refine Exists.intro (s) (And.intro ⟨rfl, by omega, by omega⟩ ?_)
      refine And.intro (fun (z : hrsT n (layT T n (od n k)) m 4 s = p) => ?_) (fun (z : ¬ hrsT n (layT T n (od n k)) m 4 s = p) => ?_)
      · have hf : r = k := by rw [← hf]; exact if_pos (decide_eq_true z)
        refine Exists.intro (s) (And.intro ⟨rfl, by omega, by omega⟩ ?_)
        refine And.intro (fun _ => And.intro ?_ o1) (fun z => absurd (show r < N by omega) z)
        show some (Value.int (τ 29 s)) = some (Value.int (nI (od n r s)))
        rw [e2 s hs, hf]
      · refine clG (ct_advance (σ := putSq 10 (hrsT n (layT T n (od n k)) m) τ) (by omega) e1 e2 (fun i hi => by have := ol i hi; omega)) (fun a τ3 hr => ?_)
        obtain ⟨rfl, g, rfl, hg⟩ := hr
        have ihk := ih (k + 1) (by omega) (by rw [← hf]; exact (if_neg (show ¬ dwP n m s p T k = true from by unfold dwP; rw [decide_eq_false z]; decide)).symm) (upr (putSq 10 (hrsT n (layT T n (od n k)) m) τ) 29 g) (OkC_upr o1 (by decide) g) e1 (fun hd i hi => by
          obtain ⟨g', q1, q2⟩ := od_next h6 (show k + 1 < nOd n by omega)
          rw [upr_in, hg i hi, getD_some q1, q2 i hi])
        rw [nI_succ] at ihk
        exact ihk
  refine cl (isS vσ hss) ?_
  refine br_f (by decide) ?_
  refine cl (isP hp _) ?_
  refine br_f (by decide) ?_
  refine cl (of_ok h9 e10 e9 h6 0 (by decide) hn en (by omega) late) ?_
  refine br_t (by decide) ?_
  refine cl (ct_obegin (by omega) (show σ 1 9 = nI n from e9) σ) ?_
  have hfa : nI (fa n) = nI N := by rw [fa_len n (by omega), hN]
  have L0 := L N 0 (by omega) hr (upr (up2 σ 28 1 (nI n)) 29 (mx nI (σ 29) n)) (OkC_upr (OkC_upr (OkC_rf z10) (by decide) _) (by decide) _) rfl (fun _ i hi => by
    rw [upr_in, od_0 h6 i hi]
    exact if_pos hi)
  rw [← hfa] at L0
  exact L0
theorem ctm_dawn {σ T : Sg} {n hh m s : Nat} (v : VT n hh T) (f46 : σ 46 = flat T) (z48 : Zr 78 (σ 48)) (h9 : hh ≤ 999) (h6 : n ≤ 6) (hm : m ≤ 24) (late : ¬ 999 < hh + m) (hs : s < n) {p nv : Int32} (hp : bI p 0 11 = true) (hn : bI nv 0 24 = true) (en : nv = nI m) {r : Nat} (hr : firstN (dwP n m s p T) (nOd n) 0 = r) : Ct mX5_dawn [.ref 45, .int (nI s), .int p, .int nv] σ (fun a σ' => (r < nOd n → a = some (.int (nI (od n r s))) ∧ OkM σ T σ' ∧ σ' 46 = flat T) ∧ (¬ r < nOd n → a = some (.int (fd 3)) ∧ ∃ τ, OkM σ T τ ∧ τ 46 = flat T ∧ σ' = telM τ 3)) := by
  have hss : bI (nI s) 0 ((n : Int) - 1) = true := stn_t v.1.1 hs
  have z46 : Zr 78 (σ 46) := by rw [f46]; exact flat_z T
  obtain ⟨n0, n7⟩ := nOd_pos h6
  generalize hN : nOd n = N at n0 n7 hr ⊢
  refine Ct.of (by decide +kernel) zX5_dawn (Nat.le_of_ble_eq_true rfl) (by decide) (fun X go => ?_)
  refine go.1 [65] 100 _ _ _ _ ?_
  have E1 : r < N → ∀ τ : Sg, OkM σ T τ → X 65 [(0, .ref 45), (1, .int (nI s)), (2, .int p), (3, .int nv), (4, .int 0), (5, .int (nI (od n r s))), (6, .int 0)] [] τ := by
    intro hrN τ o
    have := od_lt h6 (show r < nOd n by omega) s hs
    refine go.1 [65] 40 _ _ _ _ ?_
    refine br_t (by decide) ?_
    refine cl (ct_putsBack (by rw [o.2.2.1]; exact flat_z T) o.2.2.2) ?_
    rw [o.2.2.1]
    refine br_t (nI_pos' (by omega)) ?_
    exact And.intro (fun _ => And.intro rfl (And.intro (OkM_MS o) (upr_in _ _ _))) (fun z => absurd hrN z)
  have E2 : ¬ r < N → ∀ τ : Sg, OkM σ T τ → X 65 [(0, .ref 45), (1, .int (nI s)), (2, .int p), (3, .int nv), (4, .int 0), (5, .int (-1)), (6, .int 0)] [] τ := by
    intro hrN τ o
    refine go.1 [65] 40 _ _ _ _ ?_
    refine br_t (by decide) ?_
    refine cl (ct_putsBack (by rw [o.2.2.1]; exact flat_z T) o.2.2.2) ?_
    rw [o.2.2.1]
    refine br_f (by decide) ?_
    refine cl (ct_finds (w := 3) (by decide) fd3 _) ?_
    exact And.intro (fun z => absurd z hrN) (fun _ => And.intro rfl ⟨_, OkM_MS o, upr_in _ _ _, rfl⟩)
  have L : ∀ d k, k + (d + 1) = N → firstN (dwP n m s p T) (d + 1) k = r → ∀ (v5 : Int32) (τ : Sg), OkM σ T τ → (∀ i, i < n → τ 50 i = nI (od n k i)) → X 65 [(0, .ref 45), (1, .int (nI s)), (2, .int p), (3, .int nv), (4, .int 0), (5, .int v5), (6, .int 1)] [] τ := by
    intro d
    induction d with
    | zero =>
      intro k hk hf v5 τ o e2
      have hkN : k < nOd n := by omega
      have ol := od_lt h6 hkN
      have vl := VT_lay v ol (od_inj h6 hkN)
      have vh := VT_hrs vl m (by omega)
      have c2 := ct_hoursGo vl (show hh + m ≤ 2000 by omega) en τ
      have c3 := ct_its (k := s) (w := 1) (by have := v.1.1; omega) (by decide) (kv := nI s) (wv := 1) rfl rfl τ (hrsT n (layT T n (od n k)) m)
      have o1 : OkM σ T (MS τ (hrsT n (layT T n (od n k)) m)) := OkM_MS o
      have hs8 := v.1.1
      refine go.1 [65] 100 _ _ _ _ ?_
      refine br_f (by decide) ?_
      refine cl (ct_lays v o.2.2.1 o.2.2.2 ol e2) ?_
      refine cl c2 ?_
      refine cl c3 ?_
      refine And.intro (fun (z : hrsT n (layT T n (od n k)) m 4 s = p) => ?_) (fun (z : ¬ hrsT n (layT T n (od n k)) m 4 s = p) => ?_)
      · have hf : r = k := by rw [← hf]; exact if_pos (decide_eq_true z)
        have := ol s hs
        refine Exists.intro s (And.intro ⟨rfl, by omega, by omega⟩ ?_)
        refine br_t (show 0 ≤ τ 50 s from by rw [e2 s hs]; exact nI_pos' (by omega)) ?_
        have e1 := E1 (by omega) (MS τ (hrsT n (layT T n (od n k)) m)) o1
        rw [hf, ← e2 s hs] at e1
        refine go.2 [0, 1, 2, 3, 4, 5, 6] _ _ _ _ ?_
        exact e1
      · have nxt := ct_nextOrder (σ := MS τ (hrsT n (layT T n (od n k)) m)) (show n ≤ 8 by omega) vh.1.2.2.1 e2 (fun i hi => by have := ol i hi; omega)
        refine br_f (by decide) ?_
        refine clG nxt (fun a τ3 hr => ?_)
        obtain ⟨hr1, g, rfl, hg⟩ := hr
        have hx : nxF n (od n k) = none := od_last h6 (by omega)
        rw [hx] at hr1
        subst hr1
        refine br_t (by decide) ?_
        refine go.2 [0, 1, 2, 3, 4, 5, 6] _ _ _ _ ?_
        refine E2 ?_ (upr (MS τ (hrsT n (layT T n (od n k)) m)) 50 g) (OkM_50 o1 g)
        have hf : firstN (dwP n m s p T) 0 (k + 1) = r := by rw [← hf]; exact (if_neg (show ¬ dwP n m s p T k = true from by unfold dwP; rw [decide_eq_false z]; decide)).symm
        have hf : k + 1 = r := hf
        omega
    | succ d ih =>
      intro k hk hf v5 τ o e2
      have hkN : k < nOd n := by omega
      have ol := od_lt h6 hkN
      have vl := VT_lay v ol (od_inj h6 hkN)
      have vh := VT_hrs vl m (by omega)
      have c2 := ct_hoursGo vl (show hh + m ≤ 2000 by omega) en τ
      have c3 := ct_its (k := s) (w := 1) (by have := v.1.1; omega) (by decide) (kv := nI s) (wv := 1) rfl rfl τ (hrsT n (layT T n (od n k)) m)
      have o1 : OkM σ T (MS τ (hrsT n (layT T n (od n k)) m)) := OkM_MS o
      have hs8 := v.1.1
      refine go.1 [65] 100 _ _ _ _ ?_
      refine br_f (by decide) ?_
      refine cl (ct_lays v o.2.2.1 o.2.2.2 ol e2) ?_
      refine cl c2 ?_
      refine cl c3 ?_
      refine And.intro (fun (z : hrsT n (layT T n (od n k)) m 4 s = p) => ?_) (fun (z : ¬ hrsT n (layT T n (od n k)) m 4 s = p) => ?_)
      · have hf : r = k := by rw [← hf]; exact if_pos (decide_eq_true z)
        have := ol s hs
        refine Exists.intro s (And.intro ⟨rfl, by omega, by omega⟩ ?_)
        refine br_t (show 0 ≤ τ 50 s from by rw [e2 s hs]; exact nI_pos' (by omega)) ?_
        have e1 := E1 (by omega) (MS τ (hrsT n (layT T n (od n k)) m)) o1
        rw [hf, ← e2 s hs] at e1
        refine go.2 [0, 1, 2, 3, 4, 5, 6] _ _ _ _ ?_
        exact e1
      · have nxt := ct_nextOrder (σ := MS τ (hrsT n (layT T n (od n k)) m)) (show n ≤ 8 by omega) vh.1.2.2.1 e2 (fun i hi => by have := ol i hi; omega)
        refine br_f (by decide) ?_
        refine clG nxt (fun a τ3 hr => ?_)
        obtain ⟨hr1, g, rfl, hg⟩ := hr
        obtain ⟨g', q1, q2⟩ := od_next h6 (show k + 1 < nOd n by omega)
        rw [q1] at hr1
        subst hr1
        refine br_f (show ¬ (1 : Int32) = 0 by decide) ?_
        have ihk := ih (k + 1) (by omega) (by rw [← hf]; exact (if_neg (show ¬ dwP n m s p T k = true from by unfold dwP; rw [decide_eq_false z]; decide)).symm) (-1) (upr (MS τ (hrsT n (layT T n (od n k)) m)) 50 g) (OkM_50 o1 g) (fun i hi => by rw [upr_in, hg i hi, getD_some q1, q2 i hi])
        refine go.2 [0, 1, 2, 3, 4, 5, 6] _ _ _ _ ?_
        exact ihk
  have L0 := L (N - 1) 0 (by omega) (by rw [show N - 1 + 1 = N by omega]; exact hr) (-1) (upr (sv σ) 50 (mx nI (sv σ 50) 8)) (OkM_50 (OkM_sv f46) _) (fun i hi => by
    rw [upr_in, od_0 h6 i hi]
    exact if_pos (by omega))
  refine cl (isSM v f46 hss) ?_
  refine br_f (by decide) ?_
  refine cl (isPM hp _) ?_
  refine br_f (by decide) ?_
  refine cl (inM 0 24 hn _) ?_
  refine br_f (by decide) ?_
  refine cl (ow_ok h9 f46 v.1.2.2.2 v.1.2.2.1 h6 en (by omega) late) ?_
  refine br_t (by decide) ?_
  refine cl (ct_sv z46 z48) ?_
  refine cl (ct_firstOrder _) ?_
  exact L0
theorem P_dawn {σ : Sg} (h : J σ) (s p nv : Int32) : PairG mX4_dawn mX5_dawn [.int s, .int p, .int nv] σ := by
  have f46 := J46 h
  obtain ⟨n, hh, v, h9⟩ := h.1
  have hn8 := v.1.1
  have z1 := h.2.1.1
  have z48 := h.2.2.2.1.1
  have z46 := J_z46 h
  cases hs : bI s 0 ((n : Int) - 1) with
  | false =>
    refine Pair.G ?_
    refine Pair_fd h 0 ?_ ?_
    · refine Ct.of (by decide +kernel) zX4_dawn (Nat.le_of_ble_eq_true rfl) (by decide) (fun X go => ?_)
      refine go.1 [] 100 _ _ _ _ ?_
      refine cl (isS v hs) ?_
      refine br_t (by decide) ?_
      refine cl (of_bad h9 v.1.2.2.2 0 (by decide) false rfl) ?_
      refine br_f (by decide) ?_
      exact And.intro rfl rfl
    · refine Ct.of (by decide +kernel) zX5_dawn (Nat.le_of_ble_eq_true rfl) (by decide) (fun X go => ?_)
      refine go.1 [] 100 _ _ _ _ ?_
      refine cl (isSM v (σ := tel σ 0) f46 hs) ?_
      refine br_t (by decide) ?_
      refine br_f (by decide) ?_
      refine cl (ct_finds (w := 0) (by decide) fd0 _) ?_
      exact And.intro rfl rfl
  | true =>
    cases hp : bI p 0 11 with
    | false =>
      refine Pair.G ?_
      refine Pair_fd h 0 ?_ ?_
      · refine Ct.of (by decide +kernel) zX4_dawn (Nat.le_of_ble_eq_true rfl) (by decide) (fun X go => ?_)
        refine go.1 [] 100 _ _ _ _ ?_
        refine cl (isS v hs) ?_
        refine br_f (by decide) ?_
        refine cl (isP hp _) ?_
        refine br_t (by decide) ?_
        refine cl (of_bad h9 v.1.2.2.2 0 (by decide) false rfl) ?_
        refine br_f (by decide) ?_
        exact And.intro rfl rfl
      · refine Ct.of (by decide +kernel) zX5_dawn (Nat.le_of_ble_eq_true rfl) (by decide) (fun X go => ?_)
        refine go.1 [] 100 _ _ _ _ ?_
        refine cl (isSM v (σ := tel σ 0) f46 hs) ?_
        refine br_f (by decide) ?_
        refine cl (isPM hp _) ?_
        refine br_t (by decide) ?_
        refine br_f (by decide) ?_
        refine cl (ct_finds (w := 0) (by decide) fd0 _) ?_
        exact And.intro rfl rfl
    | true =>
      cases hn : bI nv 0 24 with
      | false =>
        refine Pair.G ?_
        refine Pair_fd h 0 ?_ ?_
        · refine Ct.of (by decide +kernel) zX4_dawn (Nat.le_of_ble_eq_true rfl) (by decide) (fun X go => ?_)
          refine go.1 [] 100 _ _ _ _ ?_
          refine cl (isS v hs) ?_
          refine br_f (by decide) ?_
          refine cl (isP hp _) ?_
          refine br_f (by decide) ?_
          refine cl (of_bad h9 v.1.2.2.2 0 (by decide) true hn) ?_
          refine br_f (by decide) ?_
          exact And.intro rfl rfl
        · refine Ct.of (by decide +kernel) zX5_dawn (Nat.le_of_ble_eq_true rfl) (by decide) (fun X go => ?_)
          refine go.1 [] 100 _ _ _ _ ?_
          refine cl (isSM v (σ := tel σ 0) f46 hs) ?_
          refine br_f (by decide) ?_
          refine cl (isPM hp _) ?_
          refine br_f (by decide) ?_
          refine cl (inM 0 24 hn _) ?_
          refine br_t (by decide) ?_
          refine br_f (by decide) ?_
          refine cl (ct_finds (w := 0) (by decide) fd0 _) ?_
          exact And.intro rfl rfl
      | true =>
        obtain ⟨m, hm1, hm2, en⟩ := bI_n hn (by decide) (by decide)
        by_cases late : 999 < hh + m
        · refine Pair.G ?_
          refine Pair_fd h 4 ?_ ?_
          · refine Ct.of (by decide +kernel) zX4_dawn (Nat.le_of_ble_eq_true rfl) (by decide) (fun X go => ?_)
            refine go.1 [] 100 _ _ _ _ ?_
            refine cl (isS v hs) ?_
            refine br_f (by decide) ?_
            refine cl (isP hp _) ?_
            refine br_f (by decide) ?_
            refine cl (of_late h9 v.1.2.2.2 0 (by decide) hn en (by omega) late) ?_
            refine br_f (by decide) ?_
            exact And.intro rfl rfl
          · refine Ct.of (by decide +kernel) zX5_dawn (Nat.le_of_ble_eq_true rfl) (by decide) (fun X go => ?_)
            refine go.1 [] 100 _ _ _ _ ?_
            refine cl (isSM v (σ := tel σ 4) f46 hs) ?_
            refine br_f (by decide) ?_
            refine cl (isPM hp _) ?_
            refine br_f (by decide) ?_
            refine cl (inM 0 24 hn _) ?_
            refine br_f (by decide) ?_
            refine cl (ow_late h9 (σ := tel σ 4) f46 v.1.2.2.2 en (by omega) late) ?_
            refine br_f (by decide) ?_
            refine cl (ct_finds (w := 4) (by decide) fd4 _) ?_
            exact And.intro rfl rfl
        · by_cases h6 : 6 < n
          · refine Pair.G ?_
            refine Pair_fd h 6 ?_ ?_
            · refine Ct.of (by decide +kernel) zX4_dawn (Nat.le_of_ble_eq_true rfl) (by decide) (fun X go => ?_)
              refine go.1 [] 100 _ _ _ _ ?_
              refine cl (isS v hs) ?_
              refine br_f (by decide) ?_
              refine cl (isP hp _) ?_
              refine br_f (by decide) ?_
              refine cl (of_size h9 v.1.2.2.2 v.1.2.2.1 hn8 h6 0 (by decide) hn en (by omega) late) ?_
              refine br_f (by decide) ?_
              exact And.intro rfl rfl
            · refine Ct.of (by decide +kernel) zX5_dawn (Nat.le_of_ble_eq_true rfl) (by decide) (fun X go => ?_)
              refine go.1 [] 100 _ _ _ _ ?_
              refine cl (isSM v (σ := tel σ 6) f46 hs) ?_
              refine br_f (by decide) ?_
              refine cl (isPM hp _) ?_
              refine br_f (by decide) ?_
              refine cl (inM 0 24 hn _) ?_
              refine br_f (by decide) ?_
              refine cl (ow_size h9 (σ := tel σ 6) f46 v.1.2.2.2 v.1.2.2.1 hn8 h6 en (by omega) late) ?_
              refine br_f (by decide) ?_
              refine cl (ct_finds (w := 6) (by decide) fd6 _) ?_
              exact And.intro rfl rfl
          · obtain ⟨k, hk, rfl⟩ := st_n v.1.1 hs
            generalize hr : firstN (dwP n m k p (Tq 1 σ)) (nOd n) 0 = r
            have c1 := ctc_dawn h v h9 (by omega) (show m ≤ 24 by omega) late hk hp hn en hr
            by_cases q : r < nOd n
            · refine ⟨nI (od n r k), _, c1, fun a σ1 ha => ⟨(ha.1 q).1, ?_⟩⟩
              obtain ⟨-, o⟩ := ha.1 q
              have f1 : σ1 46 = flat (Tq 1 σ) := by rw [o.1 46 (by decide) (by decide)]; exact f46
              have z8 : Zr 78 (σ1 48) := by rw [o.1 48 (by decide) (by decide)]; exact z48
              refine ⟨_, ctm_dawn v f1 z8 h9 (by omega) (show m ≤ 24 by omega) late hk hp hn en hr, fun a σ2 hb => ?_⟩
              obtain ⟨a1, a2, a3⟩ := hb.1 q
              exact ⟨a1, J_ord h o a2 a3⟩
            · refine ⟨fd 3, _, c1, fun a σ1 ha => ⟨(ha.2 q).1, ?_⟩⟩
              obtain ⟨-, τ, o, rfl⟩ := ha.2 q
              have f1 : tel τ 3 46 = flat (Tq 1 σ) := by rw [show tel τ 3 46 = τ 46 from rfl, o.1 46 (by decide) (by decide)]; exact f46
              have z8 : Zr 78 (tel τ 3 48) := by rw [show tel τ 3 48 = τ 48 from rfl, o.1 48 (by decide) (by decide)]; exact z48
              refine ⟨_, ctm_dawn v f1 z8 h9 (by omega) (show m ≤ 24 by omega) late hk hp hn en hr, fun a σ2 hb => ?_⟩
              obtain ⟨a1, τ2, a2, a3, rfl⟩ := hb.2 q
              exact ⟨a1, J_ordT 3 h o a2 a3⟩
/-! never -/
def cB (P : Nat → Bool) : Nat → Nat
  | 0 => 0
  | k + 1 => cB P k + (if P k = true then 1 else 0)
theorem cB_le (P : Nat → Bool) : ∀ k, cB P k ≤ k
  | 0 => Nat.le_refl 0
  | k + 1 => by
    have := cB_le P k
    unfold cB
    split <;> omega
theorem cB_t {P : Nat → Bool} {k : Nat} (h : P k = true) : cB P (k + 1) = cB P k + 1 := by
  rw [cB, if_pos h]
theorem cB_f {P : Nat → Bool} {k : Nat} (h : ¬ P k = true) : cB P (k + 1) = cB P k := by
  rw [cB, if_neg h]; rfl
def nvR (n m a b : Nat) (T : Sg) (k : Nat) : Nat := firstN (fun j => bes (hrsT n (layT T n (od n k)) j) a b) (m + 1) 0
def nvP (n m a b : Nat) (T : Sg) (k : Nat) : Bool := decide (¬ nvR n m a b T k ≤ m)
theorem ctc_never {σ : Sg} (h : J σ) {n hh m a b : Nat} (v : VT n hh (Tq 1 σ)) (h9 : hh ≤ 999) (h6 : n ≤ 6) (hm : m ≤ 24) (late : ¬ 999 < hh + m) (ha : a < n) (hb : b < n) (hp : (bI (nI a) 0 ((n : Int) - 1) && bI (nI b) 0 ((n : Int) - 1) && !decide (nI a = nI b)) = true) {nv : Int32} (hn : bI nv 0 24 = true) (en : nv = nI m) : Ct mX4_never [.ref 0, .int (nI a), .int (nI b), .int nv] σ (fun x σ' => x = some (.int (nI (cB (nvP n m a b (Tq 1 σ)) (nOd n)))) ∧ OkC σ σ') := by
  subst en
  have z1 := h.2.1.1
  have z10 := h.2.1.2.1
  have e10 := v.1.2.2.2
  have e9 := v.1.2.2.1
  obtain ⟨n0, n7⟩ := nOd_pos h6
  have vσ := v
  obtain ⟨T, hT⟩ : ∃ T : Sg, T = Tq 1 σ := ⟨_, rfl⟩
  rw [← hT] at v z1 ⊢
  generalize hN : nOd n = N at n0 n7 ⊢
  refine Ct.of (by decide +kernel) zX4_never (Nat.le_of_ble_eq_true rfl) (by decide) (fun X go => ?_)
  refine go.1 [44] 100 _ _ _ _ ?_
  have L : ∀ d k, k + d = N → ∀ τ : Sg, OkC σ τ → τ 28 1 = nI n → (0 < d → ∀ i, i < n → τ 29 i = nI (od n k i)) → X 44 [(0, .ref 0), (1, .int (nI a)), (2, .int (nI b)), (3, .int (nI m)), (4, .int 0), (5, .int (nI (cB (nvP n m a b T) k))), (6, .int (nI N)), (7, .int (nI k))] [] τ := by
    intro d
    induction d with
    | zero =>
      intro k hk τ o e1 e2
      have hk : k = N := by omega
      subst hk
      refine go.1 [44] 40 _ _ _ _ ?_
      refine br_t (nI_le (Nat.le_refl _) (by omega)) ?_
      exact And.intro rfl o
    | succ d ih =>
      intro k hk τ o e1 e2
      have hkN : k < nOd n := by omega
      have e2 := e2 (by omega)
      have ol := od_lt h6 hkN
      have vl := VT_lay v ol (od_inj h6 hkN)
      have c1 := ct_tryG (fun j hj => by rw [hT]; exact OkC_1 o j hj) v z1 o.2 ol e2
      have c2 := ct_firstBeside vl (show hh + m + 1 ≤ 2000 by omega) (show a < 8 by omega) (show b < 8 by omega) (σ := τ)
      have o1 : ∀ j, OkC σ (putSq 10 (hrsT n (layT T n (od n k)) j) τ) := fun j => OkC_put o (ZT_hrs (by omega) (ZT_lay z1 (by omega) _) j)
      have T68 : ∀ (j : Nat), X 68 [(0, .ref 0), (1, .int (nI a)), (2, .int (nI b)), (3, .int (nI m)), (4, .int 0), (5, .int (nI (cB (nvP n m a b T) (k + 1)))), (6, .int (nI N)), (7, .int (nI k))] [] (putSq 10 (hrsT n (layT T n (od n k)) j) τ) := by
        intro j
        refine go.1 [44] 40 _ _ _ _ ?_
        refine clG (ct_advance (σ := putSq 10 (hrsT n (layT T n (od n k)) j) τ) (by omega) e1 e2 (fun i hi => by have := ol i hi; omega)) (fun x τ3 hr => ?_)
        obtain ⟨rfl, g, rfl, hg⟩ := hr
        have ihk := ih (k + 1) (by omega) (upr (putSq 10 (hrsT n (layT T n (od n k)) j) τ) 29 g) (OkC_upr (o1 j) (by decide) g) e1 (fun hd i hi => by
          obtain ⟨g', q1, q2⟩ := od_next h6 (show k + 1 < nOd n by omega)
          rw [upr_in, hg i hi, getD_some q1, q2 i hi])
        rw [nI_succ k] at ihk
        exact ihk
      refine go.1 [44, 68] 80 _ _ _ _ ?_
      refine br_f (nI_ge (by omega) (by omega)) ?_
      refine cl c1 ?_
      refine cl c2 ?_
      by_cases q : nvR n m a b T k ≤ m
      · rw [show firstN (fun j => bes (hrsT n (layT T n (od n k)) j) a b) (m + 1) 0 = nvR n m a b T k from rfl, if_pos q]
        refine br_t (nI_pos' (by omega)) ?_
        have t := T68 (nvR n m a b T k)
        rw [cB_f (show ¬ nvP n m a b T k = true from by unfold nvP; rw [decide_eq_false (fun z => z q)]; decide)] at t
        exact t
      · rw [show firstN (fun j => bes (hrsT n (layT T n (od n k)) j) a b) (m + 1) 0 = nvR n m a b T k from rfl, if_neg q]
        refine br_f (by decide) ?_
        have t := T68 (nvR n m a b T k)
        rw [show nI (cB (nvP n m a b T) (k + 1)) = nI (cB (nvP n m a b T) k) + 1 from by rw [cB_t (show nvP n m a b T k = true from decide_eq_true q)]; exact nI_succ _] at t
        exact t
  refine cl (isPr vσ hp) ?_
  refine cl (of_ok h9 e10 e9 h6 0 (by decide) hn rfl (by omega) late) ?_
  refine br_t (by decide) ?_
  refine cl (ct_obegin (by omega) (show σ 1 9 = nI n from e9) σ) ?_
  have hfa : nI (fa n) = nI N := by rw [fa_len n (by omega), hN]
  have L0 := L N 0 (by omega) (upr (up2 σ 28 1 (nI n)) 29 (mx nI (σ 29) n)) (OkC_upr (OkC_upr (OkC_rf z10) (by decide) _) (by decide) _) rfl (fun _ i hi => by
    rw [upr_in, od_0 h6 i hi]
    exact if_pos hi)
  rw [← hfa] at L0
  exact L0
theorem ctm_never {σ T : Sg} {n hh m a b : Nat} (v : VT n hh T) (f46 : σ 46 = flat T) (z48 : Zr 78 (σ 48)) (h9 : hh ≤ 999) (h6 : n ≤ 6) (hm : m ≤ 24) (late : ¬ 999 < hh + m) (ha : a < n) (hb : b < n) (hp : (bI (nI a) 0 ((n : Int) - 1) && bI (nI b) 0 ((n : Int) - 1) && !decide (nI a = nI b)) = true) {nv : Int32} (hn : bI nv 0 24 = true) (en : nv = nI m) : Ct mX5_never [.ref 45, .int (nI a), .int (nI b), .int nv] σ (fun x σ' => x = some (.int (nI (cB (nvP n m a b T) (nOd n)))) ∧ OkM σ T σ' ∧ σ' 46 = flat T) := by
  subst en
  have z46 : Zr 78 (σ 46) := by rw [f46]; exact flat_z T
  obtain ⟨n0, n7⟩ := nOd_pos h6
  generalize hN : nOd n = N at n0 n7 ⊢
  refine Ct.of (by decide +kernel) zX5_never (Nat.le_of_ble_eq_true rfl) (by decide) (fun X go => ?_)
  refine go.1 [59] 100 _ _ _ _ ?_
  have E : ∀ τ : Sg, OkM σ T τ → X 59 [(0, .ref 45), (1, .int (nI a)), (2, .int (nI b)), (3, .int (nI m)), (4, .int 0), (5, .int (nI (cB (nvP n m a b T) N))), (6, .int 0)] [] τ := by
    intro τ o
    refine go.1 [59] 40 _ _ _ _ ?_
    refine br_t (by decide) ?_
    refine cl (ct_putsBack (by rw [o.2.2.1]; exact flat_z T) o.2.2.2) ?_
    rw [o.2.2.1]
    exact And.intro rfl (And.intro (OkM_MS o) (upr_in _ _ _))
  have L : ∀ d k, k + (d + 1) = N → ∀ (τ : Sg), OkM σ T τ → (∀ i, i < n → τ 50 i = nI (od n k i)) → X 59 [(0, .ref 45), (1, .int (nI a)), (2, .int (nI b)), (3, .int (nI m)), (4, .int 0), (5, .int (nI (cB (nvP n m a b T) k))), (6, .int 1)] [] τ := by
    intro d
    induction d with
    | zero =>
      intro k hk τ o e2
      have hkN : k < nOd n := by omega
      have ol := od_lt h6 hkN
      have vl := VT_lay v ol (od_inj h6 hkN)
      have hn8 := v.1.1
      generalize hU : layT T n (od n k) = U at vl
      have hR : firstN (fun j => bes (hrsT n U j) a b) (m + 1) 0 = nvR n m a b T k := by rw [← hU]; rfl
      generalize hR2 : nvR n m a b T k = R at hR
      have H110 : ∀ (j : Nat) (v8 : Int32), hh + j ≤ 2000 → X 110 [(0, .ref 45), (1, .int (nI a)), (2, .int (nI b)), (3, .int (nI m)), (4, .int 0), (5, .int (nI (cB (nvP n m a b T) k))), (6, .int 1), (7, .int (zb (decide (R ≤ m))))] [] (MS τ (hrsT n U j)) := by
        intro j v8 hj2
        have key : X 123 [(0, .ref 45), (1, .int (nI a)), (2, .int (nI b)), (3, .int (nI m)), (4, .int 0), (5, .int (nI (cB (nvP n m a b T) k))), (6, .int 1), (7, .int (zb (decide (R ≤ m))))] [.int (nI (cB (nvP n m a b T) (k + 1)))] (MS τ (hrsT n U j)) := by
          refine go.1 [59] 40 _ _ _ _ ?_
          refine clG (ct_nextOrder (σ := MS τ (hrsT n U j)) (by omega) (VT_hrs vl j hj2).1.2.2.1 e2 (fun i hi => by have := ol i hi; omega)) (fun x τ3 hr => ?_)
          obtain ⟨hr1, g, rfl, hg⟩ := hr
          have hx : nxF n (od n k) = none := od_last h6 (by omega)
          rw [hx] at hr1
          subst hr1
          have hk1 : k + 1 = N := by omega
          have e := E (upr (MS τ (hrsT n U j)) 50 g) (OkM_50 (OkM_MS o) g)
          rw [← hk1] at e
          refine go.2 [0, 1, 2, 3, 4, 5, 6] _ _ _ _ ?_
          exact e
        by_cases q : R ≤ m
        · have key2 := key
          rw [show nI (cB (nvP n m a b T) (k + 1)) = nI (cB (nvP n m a b T) k) + 0 from by rw [cB_f (show ¬ nvP n m a b T k = true from by unfold nvP; rw [hR2, decide_eq_false (fun z => z q)]; decide)]; exact (nI_add _ 0).symm] at key2
          rw [dec_t q] at key2 ⊢
          refine go.1 [59, 123] 40 _ _ _ _ ?_
          refine br_f (by decide) ?_
          exact key2
        · have key2 := key
          rw [show nI (cB (nvP n m a b T) (k + 1)) = nI (cB (nvP n m a b T) k) + 1 from by rw [cB_t (show nvP n m a b T k = true from by unfold nvP; rw [hR2]; exact decide_eq_true q)]; exact nI_succ _] at key2
          rw [dec_f q] at key2 ⊢
          refine go.1 [59, 123] 40 _ _ _ _ ?_
          refine br_t (by decide) ?_
          exact key2
      have LI : ∀ d j, j + d = m → firstN (fun j => bes (hrsT n U j) a b) (d + 1) j = R → X 79 [(0, .ref 45), (1, .int (nI a)), (2, .int (nI b)), (3, .int (nI m)), (4, .int 0), (5, .int (nI (cB (nvP n m a b T) k))), (6, .int 1), (7, .int (zb (bes (hrsT n U j) a b))), (8, .int (nI j))] [] (MS τ (hrsT n U j)) := by
        intro d
        induction d with
        | zero =>
          intro j hj hf
          refine go.1 [79, 110] 40 _ _ _ _ ?_
          refine br_t (nI_le (by omega) (by omega)) ?_
          refine go.2 [0, 1, 2, 3, 4, 5, 6, 7] _ _ _ _ ?_
          have hz : bes (hrsT n U j) a b = decide (R ≤ m) := by
            cases hq : bes (hrsT n U j) a b with
            | true =>
              have hf : j = R := by rw [← hf]; exact (if_pos hq).symm
              exact (decide_eq_true (by omega)).symm
            | false =>
              have hf : j + 1 = R := by rw [← hf]; exact (if_neg (show ¬ bes (hrsT n U j) a b = true from by rw [hq]; decide)).symm
              exact (decide_eq_false (by omega)).symm
          rw [hz]
          exact H110 j 0 (by omega)
        | succ d ih2 =>
          intro j hj hf
          cases hq : bes (hrsT n U j) a b with
          | true =>
            have hf : j = R := by rw [← hf]; exact (if_pos hq).symm
            have t := H110 j 0 (by omega)
            rw [dec_t (show R ≤ m by omega)] at t
            refine go.1 [79, 110] 40 _ _ _ _ ?_
            refine br_f (nI_ge (by omega) (by omega)) ?_
            refine br_f (by decide) ?_
            refine go.2 [0, 1, 2, 3, 4, 5, 6, 7] _ _ _ _ ?_
            exact t
          | false =>
            have ihj := ih2 (j + 1) (by omega) (by rw [← hf]; exact (if_neg (show ¬ bes (hrsT n U j) a b = true from by rw [hq]; decide)).symm)
            rw [nI_succ j] at ihj
            refine go.1 [79, 110] 60 _ _ _ _ ?_
            refine br_f (nI_ge (by omega) (by omega)) ?_
            refine br_t (by decide) ?_
            refine cl (ct_hour (VT_hrs vl j (by omega)) τ) ?_
            refine cl (ct_isBeside (VT_hrs vl (j + 1) (by omega)) (show a < 8 by omega) (show b < 8 by omega) rfl rfl τ) ?_
            refine go.2 [0, 1, 2, 3, 4, 5, 6, 7, 8] _ _ _ _ ?_
            exact ihj
      have LI0 := LI m 0 (by omega) hR
      have cl0 := ct_lays v o.2.2.1 o.2.2.2 ol e2
      rw [hU] at cl0
      refine go.1 [59, 79] 60 _ _ _ _ ?_
      refine br_f (by decide) ?_
      refine cl cl0 ?_
      refine cl (ct_isBeside vl (show a < 8 by omega) (show b < 8 by omega) rfl rfl τ) ?_
      exact LI0
    | succ d ih =>
      intro k hk τ o e2
      have hkN : k < nOd n := by omega
      have ol := od_lt h6 hkN
      have vl := VT_lay v ol (od_inj h6 hkN)
      have hn8 := v.1.1
      generalize hU : layT T n (od n k) = U at vl
      have hR : firstN (fun j => bes (hrsT n U j) a b) (m + 1) 0 = nvR n m a b T k := by rw [← hU]; rfl
      generalize hR2 : nvR n m a b T k = R at hR
      have H110 : ∀ (j : Nat) (v8 : Int32), hh + j ≤ 2000 → X 110 [(0, .ref 45), (1, .int (nI a)), (2, .int (nI b)), (3, .int (nI m)), (4, .int 0), (5, .int (nI (cB (nvP n m a b T) k))), (6, .int 1), (7, .int (zb (decide (R ≤ m))))] [] (MS τ (hrsT n U j)) := by
        intro j v8 hj2
        have key : X 123 [(0, .ref 45), (1, .int (nI a)), (2, .int (nI b)), (3, .int (nI m)), (4, .int 0), (5, .int (nI (cB (nvP n m a b T) k))), (6, .int 1), (7, .int (zb (decide (R ≤ m))))] [.int (nI (cB (nvP n m a b T) (k + 1)))] (MS τ (hrsT n U j)) := by
          refine go.1 [59] 40 _ _ _ _ ?_
          refine clG (ct_nextOrder (σ := MS τ (hrsT n U j)) (by omega) (VT_hrs vl j hj2).1.2.2.1 e2 (fun i hi => by have := ol i hi; omega)) (fun x τ3 hr => ?_)
          obtain ⟨hr1, g, rfl, hg⟩ := hr
          obtain ⟨g', q1, q2⟩ := od_next h6 (show k + 1 < nOd n by omega)
          rw [q1] at hr1
          subst hr1
          have ihk := ih (k + 1) (by omega) (upr (MS τ (hrsT n U j)) 50 g) (OkM_50 (OkM_MS o) g) (fun i hi => by rw [upr_in, hg i hi, getD_some q1, q2 i hi])
          refine go.2 [0, 1, 2, 3, 4, 5, 6] _ _ _ _ ?_
          exact ihk
        by_cases q : R ≤ m
        · have key2 := key
          rw [show nI (cB (nvP n m a b T) (k + 1)) = nI (cB (nvP n m a b T) k) + 0 from by rw [cB_f (show ¬ nvP n m a b T k = true from by unfold nvP; rw [hR2, decide_eq_false (fun z => z q)]; decide)]; exact (nI_add _ 0).symm] at key2
          rw [dec_t q] at key2 ⊢
          refine go.1 [59, 123] 40 _ _ _ _ ?_
          refine br_f (by decide) ?_
          exact key2
        · have key2 := key
          rw [show nI (cB (nvP n m a b T) (k + 1)) = nI (cB (nvP n m a b T) k) + 1 from by rw [cB_t (show nvP n m a b T k = true from by unfold nvP; rw [hR2]; exact decide_eq_true q)]; exact nI_succ _] at key2
          rw [dec_f q] at key2 ⊢
          refine go.1 [59, 123] 40 _ _ _ _ ?_
          refine br_t (by decide) ?_
          exact key2
      have LI : ∀ d j, j + d = m → firstN (fun j => bes (hrsT n U j) a b) (d + 1) j = R → X 79 [(0, .ref 45), (1, .int (nI a)), (2, .int (nI b)), (3, .int (nI m)), (4, .int 0), (5, .int (nI (cB (nvP n m a b T) k))), (6, .int 1), (7, .int (zb (bes (hrsT n U j) a b))), (8, .int (nI j))] [] (MS τ (hrsT n U j)) := by
        intro d
        induction d with
        | zero =>
          intro j hj hf
          refine go.1 [79, 110] 40 _ _ _ _ ?_
          refine br_t (nI_le (by omega) (by omega)) ?_
          refine go.2 [0, 1, 2, 3, 4, 5, 6, 7] _ _ _ _ ?_
          have hz : bes (hrsT n U j) a b = decide (R ≤ m) := by
            cases hq : bes (hrsT n U j) a b with
            | true =>
              have hf : j = R := by rw [← hf]; exact (if_pos hq).symm
              exact (decide_eq_true (by omega)).symm
            | false =>
              have hf : j + 1 = R := by rw [← hf]; exact (if_neg (show ¬ bes (hrsT n U j) a b = true from by rw [hq]; decide)).symm
              exact (decide_eq_false (by omega)).symm
          rw [hz]
          exact H110 j 0 (by omega)
        | succ d ih2 =>
          intro j hj hf
          cases hq : bes (hrsT n U j) a b with
          | true =>
            have hf : j = R := by rw [← hf]; exact (if_pos hq).symm
            have t := H110 j 0 (by omega)
            rw [dec_t (show R ≤ m by omega)] at t
            refine go.1 [79, 110] 40 _ _ _ _ ?_
            refine br_f (nI_ge (by omega) (by omega)) ?_
            refine br_f (by decide) ?_
            refine go.2 [0, 1, 2, 3, 4, 5, 6, 7] _ _ _ _ ?_
            exact t
          | false =>
            have ihj := ih2 (j + 1) (by omega) (by rw [← hf]; exact (if_neg (show ¬ bes (hrsT n U j) a b = true from by rw [hq]; decide)).symm)
            rw [nI_succ j] at ihj
            refine go.1 [79, 110] 60 _ _ _ _ ?_
            refine br_f (nI_ge (by omega) (by omega)) ?_
            refine br_t (by decide) ?_
            refine cl (ct_hour (VT_hrs vl j (by omega)) τ) ?_
            refine cl (ct_isBeside (VT_hrs vl (j + 1) (by omega)) (show a < 8 by omega) (show b < 8 by omega) rfl rfl τ) ?_
            refine go.2 [0, 1, 2, 3, 4, 5, 6, 7, 8] _ _ _ _ ?_
            exact ihj
      have LI0 := LI m 0 (by omega) hR
      have cl0 := ct_lays v o.2.2.1 o.2.2.2 ol e2
      rw [hU] at cl0
      refine go.1 [59, 79] 60 _ _ _ _ ?_
      refine br_f (by decide) ?_
      refine cl cl0 ?_
      refine cl (ct_isBeside vl (show a < 8 by omega) (show b < 8 by omega) rfl rfl τ) ?_
      exact LI0
  have L0 := L (N - 1) 0 (by omega) (upr (sv σ) 50 (mx nI (sv σ 50) 8)) (OkM_50 (OkM_sv f46) _) (fun i hi => by
    rw [upr_in, od_0 h6 i hi]
    exact if_pos (by omega))
  refine cl (isTw v f46 hp) ?_
  refine br_f (by decide) ?_
  refine cl (inM 0 24 hn _) ?_
  refine br_f (by decide) ?_
  refine cl (ow_ok h9 f46 v.1.2.2.2 v.1.2.2.1 h6 rfl (by omega) late) ?_
  refine br_t (by decide) ?_
  refine cl (ct_sv z46 z48) ?_
  refine cl (ct_firstOrder _) ?_
  exact L0
theorem P_never {σ : Sg} (h : J σ) (a b nv : Int32) : PairG mX4_never mX5_never [.int a, .int b, .int nv] σ := by
  have f46 := J46 h
  obtain ⟨n, hh, v, h9⟩ := h.1
  have hn8 := v.1.1
  have z1 := h.2.1.1
  have z48 := h.2.2.2.1.1
  have z46 := J_z46 h
  cases hp : (bI a 0 ((n : Int) - 1) && bI b 0 ((n : Int) - 1) && !decide (a = b)) with
  | false =>
    refine Pair.G ?_
    refine Pair_fd h 0 ?_ ?_
    · refine Ct.of (by decide +kernel) zX4_never (Nat.le_of_ble_eq_true rfl) (by decide) (fun X go => ?_)
      refine go.1 [] 100 _ _ _ _ ?_
      refine cl (isPr v hp) ?_
      refine cl (of_bad h9 v.1.2.2.2 0 (by decide) false rfl) ?_
      refine br_f (by decide) ?_
      exact And.intro rfl rfl
    · refine Ct.of (by decide +kernel) zX5_never (Nat.le_of_ble_eq_true rfl) (by decide) (fun X go => ?_)
      refine go.1 [] 100 _ _ _ _ ?_
      refine cl (isTw v (σ := tel σ 0) f46 hp) ?_
      refine br_t (by decide) ?_
      refine br_f (by decide) ?_
      refine cl (ct_finds (w := 0) (by decide) fd0 _) ?_
      exact And.intro rfl rfl
  | true =>
    cases hn : bI nv 0 24 with
    | false =>
      refine Pair.G ?_
      refine Pair_fd h 0 ?_ ?_
      · refine Ct.of (by decide +kernel) zX4_never (Nat.le_of_ble_eq_true rfl) (by decide) (fun X go => ?_)
        refine go.1 [] 100 _ _ _ _ ?_
        refine cl (isPr v hp) ?_
        refine cl (of_bad h9 v.1.2.2.2 0 (by decide) true hn) ?_
        refine br_f (by decide) ?_
        exact And.intro rfl rfl
      · refine Ct.of (by decide +kernel) zX5_never (Nat.le_of_ble_eq_true rfl) (by decide) (fun X go => ?_)
        refine go.1 [] 100 _ _ _ _ ?_
        refine cl (isTw v (σ := tel σ 0) f46 hp) ?_
        refine br_f (by decide) ?_
        refine cl (inM 0 24 hn _) ?_
        refine br_t (by decide) ?_
        refine br_f (by decide) ?_
        refine cl (ct_finds (w := 0) (by decide) fd0 _) ?_
        exact And.intro rfl rfl
    | true =>
      obtain ⟨m, hm1, hm2, en⟩ := bI_n hn (by decide) (by decide)
      by_cases late : 999 < hh + m
      · refine Pair.G ?_
        refine Pair_fd h 4 ?_ ?_
        · refine Ct.of (by decide +kernel) zX4_never (Nat.le_of_ble_eq_true rfl) (by decide) (fun X go => ?_)
          refine go.1 [] 100 _ _ _ _ ?_
          refine cl (isPr v hp) ?_
          refine cl (of_late h9 v.1.2.2.2 0 (by decide) hn en (by omega) late) ?_
          refine br_f (by decide) ?_
          exact And.intro rfl rfl
        · refine Ct.of (by decide +kernel) zX5_never (Nat.le_of_ble_eq_true rfl) (by decide) (fun X go => ?_)
          refine go.1 [] 100 _ _ _ _ ?_
          refine cl (isTw v (σ := tel σ 4) f46 hp) ?_
          refine br_f (by decide) ?_
          refine cl (inM 0 24 hn _) ?_
          refine br_f (by decide) ?_
          refine cl (ow_late h9 (σ := tel σ 4) f46 v.1.2.2.2 en (by omega) late) ?_
          refine br_f (by decide) ?_
          refine cl (ct_finds (w := 4) (by decide) fd4 _) ?_
          exact And.intro rfl rfl
      · by_cases h6 : 6 < n
        · refine Pair.G ?_
          refine Pair_fd h 6 ?_ ?_
          · refine Ct.of (by decide +kernel) zX4_never (Nat.le_of_ble_eq_true rfl) (by decide) (fun X go => ?_)
            refine go.1 [] 100 _ _ _ _ ?_
            refine cl (isPr v hp) ?_
            refine cl (of_size h9 v.1.2.2.2 v.1.2.2.1 hn8 h6 0 (by decide) hn en (by omega) late) ?_
            refine br_f (by decide) ?_
            exact And.intro rfl rfl
          · refine Ct.of (by decide +kernel) zX5_never (Nat.le_of_ble_eq_true rfl) (by decide) (fun X go => ?_)
            refine go.1 [] 100 _ _ _ _ ?_
            refine cl (isTw v (σ := tel σ 6) f46 hp) ?_
            refine br_f (by decide) ?_
            refine cl (inM 0 24 hn _) ?_
            refine br_f (by decide) ?_
            refine cl (ow_size h9 (σ := tel σ 6) f46 v.1.2.2.2 v.1.2.2.1 hn8 h6 en (by omega) late) ?_
            refine br_f (by decide) ?_
            refine cl (ct_finds (w := 6) (by decide) fd6 _) ?_
            exact And.intro rfl rfl
        · obtain ⟨i, j, hi, hj, -, rfl, rfl⟩ := pair_n v.1.1 hp
          refine ⟨_, _, ctc_never h v h9 (by omega) (show m ≤ 24 by omega) late hi hj hp hn en, fun x σ1 ha => ⟨ha.1, ?_⟩⟩
          obtain ⟨-, o⟩ := ha
          have f1 : σ1 46 = flat (Tq 1 σ) := by rw [o.1 46 (by decide) (by decide)]; exact f46
          have z8 : Zr 78 (σ1 48) := by rw [o.1 48 (by decide) (by decide)]; exact z48
          exact ⟨_, ctm_never v f1 z8 h9 (by omega) (show m ≤ 24 by omega) late hi hj hp hn en, fun x σ2 hb => ⟨hb.1, J_ord h o hb.2.1 hb.2.2⟩⟩
