/-! FIT -/
theorem all1_t {P : Nat → Bool} : ∀ {n : Nat}, (∀ k, k < n → P k = true) → all1 P n = true
  | 0, _ => rfl
  | n + 1, h => by
    show (P n && all1 P n) = true
    rw [h n (by omega), all1_t (fun k hk => h k (by omega))]
    rfl
theorem all1_f {P : Nat → Bool} : ∀ {n k : Nat}, k < n → P k = false → all1 P n = false
  | 0, k, hk, _ => absurd hk (by omega)
  | n + 1, k, hk, h => by
    show (P n && all1 P n) = false
    by_cases e : k = n
    · subst e; rw [h]; rfl
    · rw [all1_f (show k < n by omega) h, Bool.and_false]
/-- a word can be so -/
def wkB (g : Nat → Int32) (n i : Nat) : Bool := bI (g (3 * i)) 0 ((n : Int) - 1) && (bI (g (3 * i + 1)) 0 11 && bI (g (3 * i + 2)) 0 24)
/-- it is so -/
def soW (g : Nat → Int32) (U : Sg) (h i : Nat) : Bool := !decide (g (3 * i + 2) = nI h) || decide (U 4 (g (3 * i)).toNatClampNeg = g (3 * i + 1))
def lst (g : Nat → Int32) : Nat → Nat
  | 0 => 0
  | k + 1 => if lst g k < (g (3 * k + 2)).toNatClampNeg then (g (3 * k + 2)).toNatClampNeg else lst g k
theorem wkB_t {g : Nat → Int32} {n i : Nat} (hn : n ≤ 8) (h : wkB g n i = true) : (∃ a, a < n ∧ g (3 * i) = nI a) ∧ (bI (g (3 * i)) 0 ((n : Int) - 1) = true ∧ bI (g (3 * i + 1)) 0 11 = true) ∧ ∃ y, y ≤ 24 ∧ g (3 * i + 2) = nI y := by
  obtain ⟨h1, h2⟩ := Bool.and_eq_true_iff.mp h
  obtain ⟨h2, h3⟩ := Bool.and_eq_true_iff.mp h2
  refine ⟨st_n hn h1, ⟨h1, h2⟩, ?_⟩
  obtain ⟨y, -, q, e⟩ := bI_n h3 (by decide) (by decide)
  exact ⟨y, by omega, e⟩
theorem lst_le {g : Nat → Int32} {n : Nat} (hn : n ≤ 8) : ∀ k, (∀ i, i < k → wkB g n i = true) → lst g k ≤ 24 ∧ ∀ i, i < k → ∃ y, y ≤ lst g k ∧ g (3 * i + 2) = nI y
  | 0, _ => ⟨Nat.zero_le _, fun i hi => absurd hi (by omega)⟩
  | k + 1, h => by
    obtain ⟨h1, h2⟩ := lst_le hn k (fun i hi => h i (by omega))
    obtain ⟨-, -, y, hy, ey⟩ := wkB_t hn (h k (by omega))
    have hc : (g (3 * k + 2)).toNatClampNeg = y := by rw [ey]; exact nI_clamp (by omega)
    unfold lst
    rw [hc]
    split
    · rename_i hlt
      refine ⟨hy, fun i hi => ?_⟩
      by_cases e : i = k
      · subst e; exact ⟨y, Nat.le_refl y, ey⟩
      · obtain ⟨y', q1, q2⟩ := h2 i (by omega)
        exact ⟨y', by omega, q2⟩
    · rename_i hlt
      refine ⟨h1, fun i hi => ?_⟩
      by_cases e : i = k
      · subst e; exact ⟨y, by omega, ey⟩
      · obtain ⟨y', q1, q2⟩ := h2 i (by omega)
        exact ⟨y', by omega, q2⟩
/-- behind the last hour of a word nothing is asked -/
theorem so_last {g : Nat → Int32} {n w : Nat} (hn : n ≤ 8) (hw : ∀ i, i < w → wkB g n i = true) (F : Nat → Sg) : all1 (fun h => all1 (soW g (F h) h) w) (lst g w + 1) = all1 (fun h => all1 (soW g (F h) h) w) 25 := by
  obtain ⟨h1, h2⟩ := lst_le hn w hw
  have vac : ∀ h, lst g w < h → h < 25 → all1 (soW g (F h) h) w = true := by
    intro h q1 q2
    refine all1_t (fun i hi => ?_)
    obtain ⟨y, y1, y2⟩ := h2 i hi
    unfold soW
    rw [y2, decide_eq_false (fun z => by have := (nI_eq (show y < 2 ^ 31 by omega) (show h < 2 ^ 31 by omega)).mp z; omega)]
    rfl
  cases hb : all1 (fun h => all1 (soW g (F h) h) w) (lst g w + 1) with
  | true =>
    refine (all1_t (fun h hh => ?_)).symm
    by_cases q : h < lst g w + 1
    · exact all1_at hb h q
    · exact vac h (by omega) hh
  | false =>
    cases hc : all1 (fun h => all1 (soW g (F h) h) w) 25 with
    | false => rfl
    | true =>
      have := all1_t (P := fun h => all1 (soW g (F h) h) w) (n := lst g w + 1) (fun h hh => all1_at hc h (by omega))
      rw [hb] at this
      exact absurd this (by decide)
theorem i3 (k : Nat) : nI (3 * (k + 1)) = nI (3 * k) + 3 := by
  rw [show (3 : Int32) = nI 3 from rfl, nI_add]
  congr 1
def ftP (g : Nat → Int32) (n w : Nat) (T : Sg) (k : Nat) : Bool := all1 (fun h => all1 (soW g (hrsT n (layT T n (od n k)) h) h) w) 25
theorem soW_cong {g : Nat → Int32} {U U' : Sg} (e : U 4 = U' 4) (h i : Nat) : soW g U h i = soW g U' h i := by unfold soW; rw [e]
/-! the reference -/
theorem ix40b (s k c : Nat) {cv : Int32} (ec : cv = nI c) : nI (40 * s + k) + cv = nI (40 * s + k + c) := by rw [ec, nI_add]
theorem ct_isSo {n hh b len s h : Nat} {U τ : Sg} (v : VTb n hh b U) (hs : s < 4) (hl : len ≤ 40) (e3 : τ 53 s = nI len) {g : Nat → Int32} (eg : ∀ i, i < 40 → τ 54 (40 * s + i) = g i) (hw : ∀ i, i < len / 3 → wkB g n i = true) {hv : Int32} (eh : hv = nI h) : Ct mX5_isSo [.ref 45, .int (nI s), .int hv] (MS τ U) (Ex (some (.int (zb (all1 (soW g U h) (len / 3))))) (MS τ U)) := by
  subst eh
  have hn8 := v.1.1
  generalize hww : len / 3 = w at hw ⊢
  refine Ct.of (by decide +kernel) zX5_isSo (Nat.le_of_ble_eq_true rfl) (by decide) (fun X go => ?_)
  refine go.1 [8] 100 _ _ _ _ ?_
  have L : ∀ d k, k + d = w → X 8 [(0, .ref 45), (1, .int (nI s)), (2, .int (nI h)), (3, .int (zb (all1 (soW g U h) k))), (4, .int (nI (40 * s + 3 * k)))] [] (MS τ U) := by
    intro d
    induction d with
    | zero =>
      intro k hk
      have hk : k = w := by omega
      subst hk
      refine go.1 [8] 60 _ _ _ _ ?_
      refine Exists.intro (s) (And.intro ⟨rfl, by omega, by omega⟩ ?_)
      refine br_t (show nI 40 * nI s + τ 53 s ≤ nI (40 * s + 3 * k) + nI 2 from by rw [e3, pk_mul, nI_add, nI_add]; exact nI_le (by omega) (by omega)) ?_
      exact And.intro (zb_bz _) (And.intro rfl rfl)
    | succ d ih =>
      intro k hk
      have ihk := ih (k + 1) (by omega)
      rw [show nI (40 * s + 3 * (k + 1)) = nI (40 * s + 3 * k) + 3 from by rw [show (3 : Int32) = nI 3 from rfl, nI_add]; congr 1] at ihk
      have hsk : all1 (soW g U h) (k + 1) = (soW g U h k && all1 (soW g U h) k) := rfl
      obtain ⟨⟨a, ha, ea⟩, -, -⟩ := wkB_t hn8 (hw k (by omega))
      have hca : (g (3 * k)).toNatClampNeg = a := by rw [ea]; exact nI_clamp (by omega)
      have E2 : MS τ U 54 (40 * s + 3 * k + 2) = g (3 * k + 2) := eg (3 * k + 2) (by omega)
      have E1 : MS τ U 54 (40 * s + 3 * k + 1) = g (3 * k + 1) := eg (3 * k + 1) (by omega)
      have E0 : MS τ U 54 (40 * s + 3 * k) = g (3 * k) := eg (3 * k) (by omega)
      refine go.1 [8] 90 _ _ _ _ ?_
      refine Exists.intro (s) (And.intro ⟨rfl, by omega, by omega⟩ ?_)
      refine br_f (show ¬ nI 40 * nI s + τ 53 s ≤ nI (40 * s + 3 * k) + nI 2 from by rw [e3, pk_mul, nI_add, nI_add]; exact nI_ge (by omega) (by omega)) ?_
      cases hb : all1 (soW g U h) k with
      | false =>
        rw [hsk, hb, Bool.and_false] at ihk
        refine br_t (by decide) ?_
        exact ihk
      | true =>
        rw [hsk, hb, Bool.and_true] at ihk
        refine br_f (by decide) ?_
        refine Exists.intro (40 * s + 3 * k + 2) (And.intro ⟨ix40b s (3 * k) 2 rfl, by omega, by omega⟩ ?_)
        refine And.intro (fun (q : MS τ U 54 (40 * s + 3 * k + 2) = nI h) => ?_) (fun (q : ¬ MS τ U 54 (40 * s + 3 * k + 2) = nI h) => ?_)
        · rw [E2] at q
          refine Exists.intro (40 * s + 3 * k) (And.intro ⟨rfl, by omega, by omega⟩ ?_)
          refine cl (ct_its (k := a) (w := 1) (by omega) (by decide) (show MS τ U 54 (40 * s + 3 * k) = nI a from E0.trans ea) rfl τ U) ?_
          refine Exists.intro (40 * s + 3 * k + 1) (And.intro ⟨ix40b s (3 * k) 1 rfl, by omega, by omega⟩ ?_)
          refine And.intro (fun (z : U 4 a = MS τ U 54 (40 * s + 3 * k + 1)) => ?_) (fun (z : ¬ U 4 a = MS τ U 54 (40 * s + 3 * k + 1)) => ?_)
          · rw [E1] at z
            rw [show soW g U h k = true from by unfold soW; rw [hca, decide_eq_true z, Bool.or_true]] at ihk
            exact ihk
          · rw [E1] at z
            rw [show soW g U h k = false from by unfold soW; rw [hca, decide_eq_false z, decide_eq_true q]; rfl] at ihk
            exact ihk
        · rw [E2] at q
          rw [show soW g U h k = true from by unfold soW; rw [decide_eq_false q]; rfl] at ihk
          exact ihk
  have L0 := L w 0 (by omega)
  rw [show nI (40 * s + 3 * 0) = nI 40 * nI s from by rw [pk_mul]; rfl] at L0
  exact L0
theorem ctm_fit {s len n hh : Nat} (hs : s < 4) (hl : len ≤ 40) {σ T : Sg} (v : VT n hh T) (h9 : hh ≤ 999) (h6 : n ≤ 6) (late : ¬ 999 < hh + 24) (f46 : σ 46 = flat T) (z48 : Zr 78 (σ 48)) (b1 : ¬ σ 52 s = 0) (e3 : σ 53 s = nI len) {g : Nat → Int32} (eg : ∀ i, i < 40 → σ 54 (40 * s + i) = g i) : Ct mX5_fit [.ref 45, .int (nI s)] σ (fun x σ' => x = some (.int (if all1 (wkB g n) (len / 3) = true then nI (cB (ftP g n (len / 3) T) (nOd n)) else 0)) ∧ OkM σ T σ' ∧ σ' 46 = flat T) := by
  have z46 : Zr 78 (σ 46) := by rw [f46]; exact flat_z T
  have hn8 := v.1.1
  obtain ⟨n0, n7⟩ := nOd_pos h6
  generalize hN : nOd n = N at n0 n7 ⊢
  generalize hww : len / 3 = w
  refine Ct.of (by decide +kernel) zX5_fit (Nat.le_of_ble_eq_true rfl) (by decide) (fun X go => ?_)
  refine go.1 [35] 100 _ _ _ _ ?_
  have E : ∀ (x : Int32) (τ : Sg), x = (if all1 (wkB g n) w = true then nI (cB (ftP g n w T) N) else 0) → OkM σ T τ → X 129 [(0, .ref 45), (1, .int (nI s)), (2, .int 0), (3, .int 0), (4, .int x)] [] τ := by
    intro x τ ex o
    refine go.1 [129] 40 _ _ _ _ ?_
    refine br_t (by decide) ?_
    refine cl (ct_putsBack (by rw [o.2.2.1]; exact flat_z T) o.2.2.2) ?_
    rw [o.2.2.1]
    exact And.intro (by rw [ex]) (And.intro (OkM_MS o) (upr_in _ _ _))
  have L : all1 (wkB g n) w = true → ∀ d k, k + (d + 1) = N → ∀ (τ : Sg), OkM σ T τ → (∀ i, i < n → τ 50 i = nI (od n k i)) → X 129 [(0, .ref 45), (1, .int (nI s)), (2, .int 0), (3, .int 1), (4, .int (nI (cB (ftP g n w T) k)))] [] τ := by
    intro hall d
    have hwk := fun i hi => all1_at hall i hi
    induction d with
    | zero =>
      intro k hk τ o e2
      have hkN : k < nOd n := by omega
      have ol := od_lt h6 hkN
      have vl := VT_lay v ol (od_inj h6 hkN)
      have hP : ftP g n w T k = all1 (fun h => all1 (soW g (hrsT n (layT T n (od n k)) h) h) w) 25 := rfl
      generalize hU : layT T n (od n k) = U at vl hP
      have e54 : ∀ i, i < 40 → τ 54 (40 * s + i) = g i := fun i hi => by rw [o.1 54 (by decide) (by decide) (by decide) (by decide)]; exact eg i hi
      have e53 : τ 53 s = nI len := by rw [o.1 53 (by decide) (by decide) (by decide) (by decide)]; exact e3
      have H181 : ∀ (j : Nat) (v6 : Int32), hh + j ≤ 2000 → X 181 [(0, .ref 45), (1, .int (nI s)), (2, .int 0), (3, .int 1), (4, .int (nI (cB (ftP g n w T) k))), (5, .int (zb (ftP g n w T k)))] [] (MS τ (hrsT n U j)) := by
        intro j v6 hj2
        have key : X 194 [(0, .ref 45), (1, .int (nI s)), (2, .int 0), (3, .int 1), (4, .int (nI (cB (ftP g n w T) k))), (5, .int (zb (ftP g n w T k)))] [.int (nI (cB (ftP g n w T) (k + 1)))] (MS τ (hrsT n U j)) := by
          refine go.1 [129] 40 _ _ _ _ ?_
          refine clG (ct_nextOrder (σ := MS τ (hrsT n U j)) (by omega) (VT_hrs vl j hj2).1.2.2.1 e2 (fun i hi => by have := ol i hi; omega)) (fun x τ3 hr => ?_)
          obtain ⟨hr1, g2, rfl, hg⟩ := hr
          have hx : nxF n (od n k) = none := od_last h6 (by omega)
          rw [hx] at hr1
          subst hr1
          have hk1 : k + 1 = N := by omega
          have e := E (nI (cB (ftP g n w T) N)) (upr (MS τ (hrsT n U j)) 50 g2) (if_pos hall).symm (OkM_50 (OkM_MS o) g2)
          rw [← hk1] at e
          refine go.2 [0, 1, 2, 3, 4] _ _ _ _ ?_
          exact e
        cases q : ftP g n w T k with
        | false =>
          have key2 := key
          rw [q] at key2
          rw [show nI (cB (ftP g n w T) (k + 1)) = nI (cB (ftP g n w T) k) + 0 from by rw [cB_f (show ¬ ftP g n w T k = true from by rw [q]; decide)]; exact (nI_add _ 0).symm] at key2
          refine go.1 [129, 194] 40 _ _ _ _ ?_
          refine br_t (by decide) ?_
          exact key2
        | true =>
          have key2 := key
          rw [q] at key2
          rw [show nI (cB (ftP g n w T) (k + 1)) = nI (cB (ftP g n w T) k) + 1 from by rw [cB_t q]; exact nI_succ _] at key2
          refine go.1 [129, 194] 40 _ _ _ _ ?_
          refine br_f (by decide) ?_
          exact key2
      have LI : ∀ d j, j + d = 24 → (∀ h, h < j → all1 (soW g (hrsT n U h) h) w = true) → X 148 [(0, .ref 45), (1, .int (nI s)), (2, .int 0), (3, .int 1), (4, .int (nI (cB (ftP g n w T) k))), (5, .int (zb (all1 (soW g (hrsT n U j) j) w))), (6, .int (nI (j + 1)))] [] (MS τ (hrsT n U j)) := by
        intro d
        induction d with
        | zero =>
          intro j hj hf
          have hj : j = 24 := by omega
          subst hj
          refine go.1 [148, 181] 40 _ _ _ _ ?_
          refine br_t (by decide) ?_
          refine go.2 [0, 1, 2, 3, 4, 5] _ _ _ _ ?_
          have hz : all1 (soW g (hrsT n U 24) 24) w = ftP g n w T k := by
            rw [hP]
            cases hq : all1 (soW g (hrsT n U 24) 24) w with
            | false => exact (all1_f (k := 24) (by decide) hq).symm
            | true =>
              refine (all1_t (fun h hh => ?_)).symm
              by_cases e : h = 24
              · rw [e]; exact hq
              · exact hf h (by omega)
          rw [hz]
          exact H181 24 0 (by omega)
        | succ d ih2 =>
          intro j hj hf
          cases hq : all1 (soW g (hrsT n U j) j) w with
          | false =>
            have t := H181 j 0 (by omega)
            rw [show ftP g n w T k = false from by rw [hP]; exact all1_f (k := j) (by omega) hq] at t
            refine go.1 [148, 181] 40 _ _ _ _ ?_
            refine br_f (show ¬ nI 25 ≤ nI (j + 1) from nI_ge (by omega) (by omega)) ?_
            refine br_t (by decide) ?_
            refine go.2 [0, 1, 2, 3, 4, 5] _ _ _ _ ?_
            exact t
          | true =>
            have ihj := ih2 (j + 1) (by omega) (fun h hh => by
              by_cases e : h = j
              · rw [e]; exact hq
              · exact hf h (by omega))
            rw [nI_succ (j + 1)] at ihj
            have cso := ct_isSo (h := j + 1) (hv := nI (j + 1)) (VT_hrs vl (j + 1) (by omega)) hs hl e53 e54 (by rw [hww]; exact hwk) rfl
            rw [hww] at cso
            refine go.1 [148, 181] 60 _ _ _ _ ?_
            refine br_f (show ¬ nI 25 ≤ nI (j + 1) from nI_ge (by omega) (by omega)) ?_
            refine br_f (by decide) ?_
            refine cl (ct_hour (VT_hrs vl j (by omega)) τ) ?_
            refine cl cso ?_
            refine go.2 [0, 1, 2, 3, 4, 5, 6] _ _ _ _ ?_
            exact ihj
      have LI0 := LI 24 0 (by omega) (fun h hh => absurd hh (by omega))
      have cl0 := ct_lays v o.2.2.1 o.2.2.2 ol e2
      rw [hU] at cl0
      have cso := ct_isSo (h := 0) (hv := 0) vl hs hl e53 e54 (by rw [hww]; exact hwk) rfl
      rw [hww] at cso
      refine go.1 [129, 148] 60 _ _ _ _ ?_
      refine br_f (by decide) ?_
      refine cl cl0 ?_
      refine cl cso ?_
      exact LI0
    | succ d ih =>
      intro k hk τ o e2
      have hkN : k < nOd n := by omega
      have ol := od_lt h6 hkN
      have vl := VT_lay v ol (od_inj h6 hkN)
      have hP : ftP g n w T k = all1 (fun h => all1 (soW g (hrsT n (layT T n (od n k)) h) h) w) 25 := rfl
      generalize hU : layT T n (od n k) = U at vl hP
      have e54 : ∀ i, i < 40 → τ 54 (40 * s + i) = g i := fun i hi => by rw [o.1 54 (by decide) (by decide) (by decide) (by decide)]; exact eg i hi
      have e53 : τ 53 s = nI len := by rw [o.1 53 (by decide) (by decide) (by decide) (by decide)]; exact e3
      have H181 : ∀ (j : Nat) (v6 : Int32), hh + j ≤ 2000 → X 181 [(0, .ref 45), (1, .int (nI s)), (2, .int 0), (3, .int 1), (4, .int (nI (cB (ftP g n w T) k))), (5, .int (zb (ftP g n w T k)))] [] (MS τ (hrsT n U j)) := by
        intro j v6 hj2
        have key : X 194 [(0, .ref 45), (1, .int (nI s)), (2, .int 0), (3, .int 1), (4, .int (nI (cB (ftP g n w T) k))), (5, .int (zb (ftP g n w T k)))] [.int (nI (cB (ftP g n w T) (k + 1)))] (MS τ (hrsT n U j)) := by
          refine go.1 [129] 40 _ _ _ _ ?_
          refine clG (ct_nextOrder (σ := MS τ (hrsT n U j)) (by omega) (VT_hrs vl j hj2).1.2.2.1 e2 (fun i hi => by have := ol i hi; omega)) (fun x τ3 hr => ?_)
          obtain ⟨hr1, g2, rfl, hg⟩ := hr
          obtain ⟨g', q1, q2⟩ := od_next h6 (show k + 1 < nOd n by omega)
          rw [q1] at hr1
          subst hr1
          have ihk := ih (k + 1) (by omega) (upr (MS τ (hrsT n U j)) 50 g2) (OkM_50 (OkM_MS o) g2) (fun i hi => by rw [upr_in, hg i hi, getD_some q1, q2 i hi])
          refine go.2 [0, 1, 2, 3, 4] _ _ _ _ ?_
          exact ihk
        cases q : ftP g n w T k with
        | false =>
          have key2 := key
          rw [q] at key2
          rw [show nI (cB (ftP g n w T) (k + 1)) = nI (cB (ftP g n w T) k) + 0 from by rw [cB_f (show ¬ ftP g n w T k = true from by rw [q]; decide)]; exact (nI_add _ 0).symm] at key2
          refine go.1 [129, 194] 40 _ _ _ _ ?_
          refine br_t (by decide) ?_
          exact key2
        | true =>
          have key2 := key
          rw [q] at key2
          rw [show nI (cB (ftP g n w T) (k + 1)) = nI (cB (ftP g n w T) k) + 1 from by rw [cB_t q]; exact nI_succ _] at key2
          refine go.1 [129, 194] 40 _ _ _ _ ?_
          refine br_f (by decide) ?_
          exact key2
      have LI : ∀ d j, j + d = 24 → (∀ h, h < j → all1 (soW g (hrsT n U h) h) w = true) → X 148 [(0, .ref 45), (1, .int (nI s)), (2, .int 0), (3, .int 1), (4, .int (nI (cB (ftP g n w T) k))), (5, .int (zb (all1 (soW g (hrsT n U j) j) w))), (6, .int (nI (j + 1)))] [] (MS τ (hrsT n U j)) := by
        intro d
        induction d with
        | zero =>
          intro j hj hf
          have hj : j = 24 := by omega
          subst hj
          refine go.1 [148, 181] 40 _ _ _ _ ?_
          refine br_t (by decide) ?_
          refine go.2 [0, 1, 2, 3, 4, 5] _ _ _ _ ?_
          have hz : all1 (soW g (hrsT n U 24) 24) w = ftP g n w T k := by
            rw [hP]
            cases hq : all1 (soW g (hrsT n U 24) 24) w with
            | false => exact (all1_f (k := 24) (by decide) hq).symm
            | true =>
              refine (all1_t (fun h hh => ?_)).symm
              by_cases e : h = 24
              · rw [e]; exact hq
              · exact hf h (by omega)
          rw [hz]
          exact H181 24 0 (by omega)
        | succ d ih2 =>
          intro j hj hf
          cases hq : all1 (soW g (hrsT n U j) j) w with
          | false =>
            have t := H181 j 0 (by omega)
            rw [show ftP g n w T k = false from by rw [hP]; exact all1_f (k := j) (by omega) hq] at t
            refine go.1 [148, 181] 40 _ _ _ _ ?_
            refine br_f (show ¬ nI 25 ≤ nI (j + 1) from nI_ge (by omega) (by omega)) ?_
            refine br_t (by decide) ?_
            refine go.2 [0, 1, 2, 3, 4, 5] _ _ _ _ ?_
            exact t
          | true =>
            have ihj := ih2 (j + 1) (by omega) (fun h hh => by
              by_cases e : h = j
              · rw [e]; exact hq
              · exact hf h (by omega))
            rw [nI_succ (j + 1)] at ihj
            have cso := ct_isSo (h := j + 1) (hv := nI (j + 1)) (VT_hrs vl (j + 1) (by omega)) hs hl e53 e54 (by rw [hww]; exact hwk) rfl
            rw [hww] at cso
            refine go.1 [148, 181] 60 _ _ _ _ ?_
            refine br_f (show ¬ nI 25 ≤ nI (j + 1) from nI_ge (by omega) (by omega)) ?_
            refine br_f (by decide) ?_
            refine cl (ct_hour (VT_hrs vl j (by omega)) τ) ?_
            refine cl cso ?_
            refine go.2 [0, 1, 2, 3, 4, 5, 6] _ _ _ _ ?_
            exact ihj
      have LI0 := LI 24 0 (by omega) (fun h hh => absurd hh (by omega))
      have cl0 := ct_lays v o.2.2.1 o.2.2.2 ol e2
      rw [hU] at cl0
      have cso := ct_isSo (h := 0) (hv := 0) vl hs hl e53 e54 (by rw [hww]; exact hwk) rfl
      rw [hww] at cso
      refine go.1 [129, 148] 60 _ _ _ _ ?_
      refine br_f (by decide) ?_
      refine cl cl0 ?_
      refine cl cso ?_
      exact LI0
  have W : ∀ d k, k + d = w → X 35 [(0, .ref 45), (1, .int (nI s)), (2, .int 0), (3, .int (zb (all1 (wkB g n) k))), (4, .int (nI (40 * s + 3 * k)))] [] σ := by
    intro d
    induction d with
    | zero =>
      intro k hk
      have hk : k = w := by omega
      subst hk
      refine go.1 [35, 129] 60 _ _ _ _ ?_
      refine Exists.intro (s) (And.intro ⟨rfl, by omega, by omega⟩ ?_)
      refine br_t (show nI 40 * nI s + σ 53 s ≤ nI (40 * s + 3 * k) + nI 2 from by rw [e3, pk_mul, nI_add, nI_add]; exact nI_le (by omega) (by omega)) ?_
      refine cl (ct_sv z46 z48) ?_
      refine cl (ct_firstOrder _) ?_
      have oo : OkM σ T (upr (sv σ) 50 (mx nI (sv σ 50) 8)) := OkM_50 (OkM_sv f46) _
      cases hb : all1 (wkB g n) k with
      | false => exact E 0 _ (by rw [hb]; rfl) oo
      | true =>
        exact L hb (N - 1) 0 (by omega) _ oo (fun i hi => by
          rw [upr_in, od_0 h6 i hi]
          exact if_pos (by omega))
    | succ d ih =>
      intro k hk
      have ihk := ih (k + 1) (by omega)
      rw [show nI (40 * s + 3 * (k + 1)) = nI (40 * s + 3 * k) + 3 from by rw [show (3 : Int32) = nI 3 from rfl, nI_add]; congr 1] at ihk
      have hsk : all1 (wkB g n) (k + 1) = (wkB g n k && all1 (wkB g n) k) := rfl
      have E2 : σ 54 (40 * s + 3 * k + 2) = g (3 * k + 2) := eg (3 * k + 2) (by omega)
      have E1 : σ 54 (40 * s + 3 * k + 1) = g (3 * k + 1) := eg (3 * k + 1) (by omega)
      have E0 : σ 54 (40 * s + 3 * k) = g (3 * k) := eg (3 * k) (by omega)
      refine go.1 [35] 90 _ _ _ _ ?_
      refine Exists.intro (s) (And.intro ⟨rfl, by omega, by omega⟩ ?_)
      refine br_f (show ¬ nI 40 * nI s + σ 53 s ≤ nI (40 * s + 3 * k) + nI 2 from by rw [e3, pk_mul, nI_add, nI_add]; exact nI_ge (by omega) (by omega)) ?_
      cases hb : all1 (wkB g n) k with
      | false =>
        rw [hsk, hb, Bool.and_false] at ihk
        refine br_t (by decide) ?_
        exact ihk
      | true =>
        rw [hsk, hb, Bool.and_true] at ihk
        refine br_f (by decide) ?_
        refine Exists.intro (40 * s + 3 * k) (And.intro ⟨rfl, by omega, by omega⟩ ?_)
        cases c1 : bI (g (3 * k)) 0 ((n : Int) - 1) with
        | false =>
          rw [show wkB g n k = false from by unfold wkB; rw [c1]; rfl] at ihk
          refine cl (isSM v f46 (show bI (σ 54 (40 * s + 3 * k)) 0 ((n : Int) - 1) = false from by rw [E0]; exact c1)) ?_
          refine br_t (by decide) ?_
          exact ihk
        | true =>
          refine cl (isSM v f46 (show bI (σ 54 (40 * s + 3 * k)) 0 ((n : Int) - 1) = true from by rw [E0]; exact c1)) ?_
          refine br_f (by decide) ?_
          refine Exists.intro (40 * s + 3 * k + 1) (And.intro ⟨ix40b s (3 * k) 1 rfl, by omega, by omega⟩ ?_)
          cases c2 : bI (g (3 * k + 1)) 0 11 with
          | false =>
            rw [show wkB g n k = false from by unfold wkB; rw [c1, c2]; rfl] at ihk
            refine cl (isPM (show bI (σ 54 (40 * s + 3 * k + 1)) 0 11 = false from by rw [E1]; exact c2) _) ?_
            refine br_t (by decide) ?_
            exact ihk
          | true =>
            refine cl (isPM (show bI (σ 54 (40 * s + 3 * k + 1)) 0 11 = true from by rw [E1]; exact c2) _) ?_
            refine br_f (by decide) ?_
            refine Exists.intro (40 * s + 3 * k + 2) (And.intro ⟨ix40b s (3 * k) 2 rfl, by omega, by omega⟩ ?_)
            cases c3 : bI (g (3 * k + 2)) 0 24 with
            | false =>
              rw [show wkB g n k = false from by unfold wkB; rw [c1, c2, c3]; rfl] at ihk
              refine cl (inM 0 24 (show bI (σ 54 (40 * s + 3 * k + 2)) 0 24 = false from by rw [E2]; exact c3) _) ?_
              refine br_t (by decide) ?_
              exact ihk
            | true =>
              rw [show wkB g n k = true from by unfold wkB; rw [c1, c2, c3]; rfl] at ihk
              refine cl (inM 0 24 (show bI (σ 54 (40 * s + 3 * k + 2)) 0 24 = true from by rw [E2]; exact c3) _) ?_
              refine br_f (by decide) ?_
              exact ihk
  refine cl (ct_wrong_ok hs b1) ?_
  refine br_t (by decide) ?_
  refine cl (ow_ok h9 f46 v.1.2.2.2 v.1.2.2.1 h6 (m := 24) rfl (by omega) late) ?_
  refine br_t (by decide) ?_
  have W0 := W w 0 (by omega)
  rw [show nI (40 * s + 3 * 0) = nI 40 * nI s from by rw [pk_mul]; rfl] at W0
  exact W0

/-! the class, sheet 0 -/
theorem ctc_last_0 {n hh len : Nat} {σ : Sg} (v : VT n hh (Tq 1 σ)) (hl : len ≤ 40) (e2 : σ 35 2 = nI len) : Ct mX4_lastWordHour [.ref 0, .ref 35] σ (Ex (some (.int (if all1 (wkB (σ 36) n) (len / 3) = true then nI (lst (σ 36) (len / 3)) else -1))) σ) := by
  have hn8 := v.1.1
  generalize hww : len / 3 = w
  refine Ct.of (by decide +kernel) zX4_lastWordHour (Nat.le_of_ble_eq_true rfl) (by decide) (fun X go => ?_)
  refine go.1 [4] 100 _ _ _ _ ?_
  have L : ∀ d k, k + d = w → (∀ i, i < k → wkB (σ 36) n i = true) → X 4 [(0, .ref 0), (1, .ref 35), (2, .int (nI (lst (σ 36) k))), (3, .int (nI (3 * k)))] [] σ := by
    intro d
    induction d with
    | zero =>
      intro k hk hf
      have hk : k = w := by omega
      subst hk
      refine go.1 [4] 40 _ _ _ _ ?_
      refine br_t (show σ 35 2 < nI (3 * k) + nI 3 from by rw [e2, nI_add]; exact nI_lt (by omega) (by omega)) ?_
      exact And.intro (by rw [if_pos (all1_t hf)]) rfl
    | succ d ih =>
      intro k hk hf
      have bad : wkB (σ 36) n k = false → some (Value.int (-1)) = some (Value.int (if all1 (wkB (σ 36) n) w = true then nI (lst (σ 36) w) else -1)) := fun hb => by
        rw [if_neg (show ¬ all1 (wkB (σ 36) n) w = true from by rw [all1_f (show k < w by omega) hb]; decide)]
      refine go.1 [4] 90 _ _ _ _ ?_
      refine br_f (show ¬ σ 35 2 < nI (3 * k) + nI 3 from by rw [e2, nI_add]; exact nI_nlt (by omega) (by omega)) ?_
      refine Exists.intro (3 * k + 2) (And.intro ⟨nI_add (3 * k) 2, by omega, by omega⟩ ?_)
      refine Exists.intro (3 * k) (And.intro ⟨rfl, by omega, by omega⟩ ?_)
      cases c1 : bI (σ 36 (3 * k)) 0 ((n : Int) - 1) with
      | false =>
        refine cl (isS v c1) ?_
        refine br_t (by decide) ?_
        exact And.intro (bad (by unfold wkB; rw [c1]; rfl)) rfl
      | true =>
        refine cl (isS v c1) ?_
        refine br_f (by decide) ?_
        refine Exists.intro (3 * k + 1) (And.intro ⟨nI_add (3 * k) 1, by omega, by omega⟩ ?_)
        cases c2 : bI (σ 36 (3 * k + 1)) 0 11 with
        | false =>
          refine cl (isP c2 _) ?_
          refine br_t (by decide) ?_
          exact And.intro (bad (by unfold wkB; rw [c1, c2]; rfl)) rfl
        | true =>
          refine cl (isP c2 _) ?_
          refine br_f (by decide) ?_
          refine And.intro (fun (q : σ 36 (3 * k + 2) < 0) => ?_) (fun (q : ¬ σ 36 (3 * k + 2) < 0) => ?_)
          · rw [lt0] at q
            exact And.intro (bad (by unfold wkB; rw [c1, c2, bI_f.mpr (fun z => by omega)]; rfl)) rfl
          · rw [lt0] at q
            refine And.intro (fun (z : σ 36 (3 * k + 2) ≤ 24) => ?_) (fun (z : ¬ σ 36 (3 * k + 2) ≤ 24) => ?_)
            · rw [i_le, show (24 : Int32).toInt = 24 from rfl] at z
              have c3 : bI (σ 36 (3 * k + 2)) 0 24 = true := bI_t.mpr ⟨by omega, by omega⟩
              have hk1 : wkB (σ 36) n k = true := by unfold wkB; rw [c1, c2, c3]; rfl
              obtain ⟨y, hy0, hy, ey⟩ := bI_n c3 (by decide) (by decide)
              have ihk := ih (k + 1) (by omega) (fun i hi => by
                by_cases e : i = k
                · rw [e]; exact hk1
                · exact hf i (by omega))
              have hll := (lst_le hn8 k hf).1
              rw [i3 k, show nI (lst (σ 36) (k + 1)) = (if nI (lst (σ 36) k) < σ 36 (3 * k + 2) then σ 36 (3 * k + 2) else nI (lst (σ 36) k)) from by
                rw [lst, ey, nI_clamp (show y < 2 ^ 31 by omega)]
                by_cases e : lst (σ 36) k < y
                · rw [if_pos e, if_pos (nI_lt e (by omega))]
                · rw [if_neg e, if_neg (nI_nlt (by omega) (by omega))]] at ihk
              refine go.2 [0, 1, 2, 3] _ _ _ _ ?_
              exact ihk
            · rw [i_le, show (24 : Int32).toInt = 24 from rfl] at z
              exact And.intro (bad (by unfold wkB; rw [c1, c2, bI_f.mpr (fun z' => by omega)]; rfl)) rfl
  exact L w 0 (by omega) (fun i hi => absurd hi (by omega))
theorem ctc_so_0 {n hh h1 len last : Nat} {U τ : Sg} (v : VT n hh U) (v1 : VT n h1 (Tq 1 τ)) (zu : ZT U) (hl : len ≤ 40) (e2 : τ 35 2 = nI len) (hla : last ≤ 24) (hm : hh ≤ 1000) (hwk : ∀ i, i < len / 3 → wkB (τ 36) n i = true) {lv : Int32} (el : lv = nI last) : Ct mX4_wordsAreSo [.ref 0, .ref 35, .int lv] (putSq 10 U τ) (fun x σ' => x = some (.int (zb (all1 (fun h => all1 (soW (τ 36) (hrsT n U h) h) (len / 3)) (last + 1)))) ∧ ∃ U', ZT U' ∧ σ' = putSq 10 U' τ) := by
  subst el
  have hn8 := v.1.1
  generalize hww : len / 3 = w at hwk ⊢
  refine Ct.of (by decide +kernel) zX4_wordsAreSo (Nat.le_of_ble_eq_true rfl) (by decide) (fun X go => ?_)
  refine go.1 [2] 100 _ _ _ _ ?_
  have L : ∀ d h, h + d = last + 1 → (∀ i, i < h → all1 (soW (τ 36) (hrsT n U i) i) w = true) → X 2 [(0, .ref 0), (1, .ref 35), (2, .int (nI last)), (3, .int (nI h))] [] (putSq 10 (hrsT n U h) τ) := by
    intro d
    induction d with
    | zero =>
      intro h hh hf
      refine go.1 [2] 40 _ _ _ _ ?_
      refine br_t (nI_lt (by omega) (by omega)) ?_
      have hh : h = last + 1 := by omega
      subst hh
      refine And.intro (Or.inr rfl) (And.intro ?_ ⟨_, ZT_hrs hn8 zu _, rfl⟩)
      rw [all1_t (P := fun h => all1 (soW (τ 36) (hrsT n U h) h) w) hf]
      rfl
    | succ d ih =>
      intro h hhd hf
      have vh := VT_hrs v h (by omega)
      have v1' : ∀ V : Sg, VT n h1 (Tq 1 (putSq 10 V τ)) := fun V => VT_cong (fun j hj => (putSq_out (by omega)).symm) v1
      have LI : ∀ d k, k + d = w → (∀ i, i < k → soW (τ 36) (hrsT n U h) h i = true) → X 10 [(0, .ref 0), (1, .ref 35), (2, .int (nI last)), (3, .int (nI h)), (4, .int (nI (3 * k)))] [] (putSq 10 (hrsT n U h) τ) := by
        intro d
        induction d with
        | zero =>
          intro k hk hg
          have hk : k = w := by omega
          subst hk
          refine go.1 [2, 10] 60 _ _ _ _ ?_
          refine br_t (show τ 35 2 < nI (3 * k) + nI 3 from by rw [e2, nI_add]; exact nI_lt (by omega) (by omega)) ?_
          refine cl (ct_passHour_10 vh τ) ?_
          have ihk := ih (h + 1) (by omega) (fun i hi => by
            by_cases e : i = h
            · rw [e]; exact all1_t hg
            · exact hf i (by omega))
          rw [nI_succ h] at ihk
          refine go.2 [0, 1, 2, 3] _ _ _ _ ?_
          exact ihk
        | succ d ih2 =>
          intro k hk hg
          obtain ⟨⟨a, ha, ea⟩, ⟨c1, -⟩, -⟩ := wkB_t hn8 (hwk k (by omega))
          have hca : (τ 36 (3 * k)).toNatClampNeg = a := by rw [ea]; exact nI_clamp (by omega)
          have nxt : soW (τ 36) (hrsT n U h) h k = true → X 10 [(0, .ref 0), (1, .ref 35), (2, .int (nI last)), (3, .int (nI h)), (4, .int (nI (3 * k) + 3))] [] (putSq 10 (hrsT n U h) τ) := fun hs => by
            have ihk := ih2 (k + 1) (by omega) (fun i hi => by
              by_cases e : i = k
              · rw [e]; exact hs
              · exact hg i (by omega))
            rw [i3 k] at ihk
            exact ihk
          refine go.1 [10] 90 _ _ _ _ ?_
          refine br_f (show ¬ τ 35 2 < nI (3 * k) + nI 3 from by rw [e2, nI_add]; exact nI_nlt (by omega) (by omega)) ?_
          refine Exists.intro (3 * k) (And.intro ⟨rfl, by omega, by omega⟩ ?_)
          refine Exists.intro (3 * k + 2) (And.intro ⟨nI_add (3 * k) 2, by omega, by omega⟩ ?_)
          refine And.intro (fun (q : τ 36 (3 * k + 2) = nI h) => ?_) (fun (q : ¬ τ 36 (3 * k + 2) = nI h) => ?_)
          · refine cl (isS (v1' (hrsT n U h)) c1) ?_
            refine br_f (by decide) ?_
            refine Exists.intro (a) (And.intro ⟨ea, by omega, by omega⟩ ?_)
            refine Exists.intro (3 * k + 1) (And.intro ⟨nI_add (3 * k) 1, by omega, by omega⟩ ?_)
            refine And.intro (fun (z : hrsT n U h 4 a = τ 36 (3 * k + 1)) => ?_) (fun (z : ¬ hrsT n U h 4 a = τ 36 (3 * k + 1)) => ?_)
            · refine go.2 [0, 1, 2, 3, 4] _ _ _ _ ?_
              exact nxt (by unfold soW; rw [hca, decide_eq_true z, Bool.or_true])
            · refine And.intro (Or.inl rfl) (And.intro ?_ ⟨_, ZT_hrs hn8 zu _, rfl⟩)
              rw [all1_f (P := fun h => all1 (soW (τ 36) (hrsT n U h) h) w) (k := h) (by omega) (all1_f (k := k) (by omega) (by unfold soW; rw [hca, decide_eq_false z, decide_eq_true q]; rfl))]
              rfl
          · refine go.2 [0, 1, 2, 3, 4] _ _ _ _ ?_
            exact nxt (by unfold soW; rw [decide_eq_false q]; rfl)
      refine go.1 [2, 10] 60 _ _ _ _ ?_
      refine br_f (nI_nlt (by omega) (by omega)) ?_
      exact LI w 0 (by omega) (fun i hi => absurd hi (by omega))
  exact L (last + 1) 0 (by omega) (fun i hi => absurd hi (by omega))
theorem ctc_fit_0 {σ : Sg} (h : J σ) {n hh len : Nat} (v : VT n hh (Tq 1 σ)) (h9 : hh ≤ 999) (h6 : n ≤ 6) (late : ¬ 999 < hh + 24) (hl : len ≤ 40) (b1 : ¬ σ 35 1 = 0) (e2 : σ 35 2 = nI len) : Ct mX4_fit [.ref 0, .int (nI 0)] σ (fun x σ' => x = some (.int (if all1 (wkB (σ 36) n) (len / 3) = true then nI (cB (ftP (σ 36) n (len / 3) (Tq 1 σ)) (nOd n)) else 0)) ∧ OkC σ σ') := by
  have z1 := h.2.1.1
  have z10 := h.2.1.2.1
  have e10 := v.1.2.2.2
  have e9 := v.1.2.2.1
  have hn8 := v.1.1
  obtain ⟨n0, n7⟩ := nOd_pos h6
  have clast := ctc_last_0 v hl e2
  have vσ := v
  obtain ⟨T, hT⟩ : ∃ T : Sg, T = Tq 1 σ := ⟨_, rfl⟩
  rw [← hT] at v z1 ⊢
  generalize hN : nOd n = N at n0 n7 ⊢
  generalize hww : len / 3 = w at clast ⊢
  refine Ct.of (by decide +kernel) zX4_fit (Nat.le_of_ble_eq_true rfl) (by decide) (fun X go => ?_)
  refine go.1 [64] 100 _ _ _ _ ?_
  refine cl (ct_shF_ok_0 b1) ?_
  refine br_t (by decide) ?_
  refine cl (of_ok h9 e10 e9 h6 0 (by decide) (m := 24) (by decide) rfl (by omega) late) ?_
  refine br_t (by decide) ?_
  refine Exists.intro (0) (And.intro ⟨rfl, by decide, by omega⟩ ?_)
  cases hall : all1 (wkB (σ 36) n) w with
  | false =>
    rw [hall, if_neg (show ¬ false = true by decide)] at clast
    refine cl clast ?_
    refine br_f (by decide) ?_
    exact And.intro rfl (OkC_rf z10)
  | true =>
    have hwk := fun i hi => all1_at hall i hi
    have hla := (lst_le hn8 w hwk).1
    rw [hall, if_pos rfl] at clast
    refine cl clast ?_
    refine br_t (show 0 ≤ nI (lst (σ 36) w) from nI_pos' (by omega)) ?_
    have L : ∀ d k, k + d = N → ∀ τ : Sg, OkC σ τ → τ 28 1 = nI n → (0 < d → ∀ i, i < n → τ 29 i = nI (od n k i)) → X 64 [(0, .ref 0), (1, .int (nI 0)), (2, .int 0), (3, .int (nI (lst (σ 36) w))), (4, .int (nI (cB (ftP (σ 36) n w T) k))), (5, .int (nI N)), (6, .int (nI k))] [] τ := by
      intro d
      induction d with
      | zero =>
        intro k hk τ o e1 e2
        have hk : k = N := by omega
        subst hk
        refine go.1 [64] 40 _ _ _ _ ?_
        refine br_t (nI_le (Nat.le_refl _) (by omega)) ?_
        exact And.intro (by rw [hall]; rfl) o
      | succ d ih =>
        intro k hk τ o e1 e2'
        have hkN : k < nOd n := by omega
        have e2' := e2' (by omega)
        have ol := od_lt h6 hkN
        have vl := VT_lay v ol (od_inj h6 hkN)
        have c1 := ct_tryG (fun j hj => by rw [hT]; exact OkC_1 o j hj) v z1 o.2 ol e2'
        have eN : τ 36 = σ 36 := o.1 36 (by decide) (by decide)
        have eO : τ 35 = σ 35 := o.1 35 (by decide) (by decide)
        have c2 := ctc_so_0 (U := layT T n (od n k)) (τ := τ) (last := lst (σ 36) w) vl (VT_cong (fun j hj => (OkC_1 o j hj).symm) vσ) (ZT_lay z1 hn8 _) hl (by rw [eO]; exact e2) hla (by omega) (by rw [eN, hww]; exact hwk) rfl
        rw [eN, hww, so_last hn8 hwk (fun h => hrsT n (layT T n (od n k)) h)] at c2
        have T92 : ∀ (V : Sg), ZT V → X 92 [(0, .ref 0), (1, .int (nI 0)), (2, .int 0), (3, .int (nI (lst (σ 36) w))), (4, .int (nI (cB (ftP (σ 36) n w T) (k + 1)))), (5, .int (nI N)), (6, .int (nI k))] [] (putSq 10 V τ) := by
          intro V zv
          refine go.1 [64] 40 _ _ _ _ ?_
          refine clG (ct_advance (σ := putSq 10 V τ) hn8 e1 e2' (fun i hi => by have := ol i hi; omega)) (fun x τ3 hr => ?_)
          obtain ⟨rfl, g, rfl, hg⟩ := hr
          have ihk := ih (k + 1) (by omega) (upr (putSq 10 V τ) 29 g) (OkC_upr (OkC_put o zv) (by decide) g) e1 (fun hd i hi => by
            obtain ⟨g', q1, q2⟩ := od_next h6 (show k + 1 < nOd n by omega)
            rw [upr_in, hg i hi, getD_some q1, q2 i hi])
          rw [nI_succ k] at ihk
          exact ihk
        refine go.1 [64, 92] 80 _ _ _ _ ?_
        refine br_f (nI_ge (by omega) (by omega)) ?_
        refine cl c1 ?_
        refine Exists.intro (0) (And.intro ⟨rfl, by decide, by omega⟩ ?_)
        refine clG c2 (fun x τ2 hr => ?_)
        obtain ⟨hx, V, zv, rfl⟩ := hr
        have hx : x = some (.int (zb (ftP (σ 36) n w T k))) := hx
        cases q : ftP (σ 36) n w T k with
        | true =>
          rw [q] at hx
          subst hx
          refine br_f (show ¬ (1 : Int32) = 0 by decide) ?_
          have t := T92 V zv
          rw [show nI (cB (ftP (σ 36) n w T) (k + 1)) = nI (cB (ftP (σ 36) n w T) k) + 1 from by rw [cB_t q]; exact nI_succ _] at t
          exact t
        | false =>
          rw [q] at hx
          subst hx
          refine br_t (show (0 : Int32) = 0 by decide) ?_
          have t := T92 V zv
          rw [cB_f (show ¬ ftP (σ 36) n w T k = true by rw [q]; decide)] at t
          exact t
    refine cl (ct_obegin hn8 (show σ 1 9 = nI n from e9) σ) ?_
    have hfa : nI (fa n) = nI N := by rw [fa_len n (by omega), hN]
    have L0 := L N 0 (by omega) (upr (up2 σ 28 1 (nI n)) 29 (mx nI (σ 29) n)) (OkC_upr (OkC_upr (OkC_rf z10) (by decide) _) (by decide) _) rfl (fun _ i hi => by
      rw [upr_in, od_0 h6 i hi]
      exact if_pos hi)
    rw [← hfa] at L0
    exact L0
theorem P_fit_0 {σ : Sg} (h : J σ) : PairG mX4_fit mX5_fit [.int (nI 0)] σ := by
  have f46 := J46 h
  obtain ⟨n, hh, v, h9⟩ := h.1
  have hn8 := v.1.1
  have z1 := h.2.1.1
  have z48 := h.2.2.2.1.1
  have z46 := J_z46 h
  obtain ⟨len, hl, e2, e3, e1, eb, en'⟩ := J_sh h 0 (by decide)
  have e1 : σ 35 1 = σ 52 0 := e1
  by_cases h0 : σ 52 0 = 0
  · refine Pair.G ?_
    refine Pair_fd h 5 ?_ ?_
    · refine Ct.of (by decide +kernel) zX4_fit (Nat.le_of_ble_eq_true rfl) (by decide) (fun X go => ?_)
      refine go.1 [] 100 _ _ _ _ ?_
      refine cl (ct_shF_no_0 (σ := σ) (e1.trans h0)) ?_
      refine br_f (by decide) ?_
      refine br_f (by decide) ?_
      exact And.intro rfl rfl
    · refine Ct.of (by decide +kernel) zX5_fit (Nat.le_of_ble_eq_true rfl) (by decide) (fun X go => ?_)
      refine go.1 [] 100 _ _ _ _ ?_
      refine cl (ct_wrong_no (s := 0) (σ := tel σ 5) (by decide) h0) ?_
      refine br_f (by decide) ?_
      refine br_f (by decide) ?_
      refine cl (ct_finds (w := 5) (by decide) fd5 _) ?_
      exact And.intro rfl rfl
  · have h1 : ¬ σ 35 1 = 0 := fun q => h0 (e1.symm.trans q)
    by_cases late : 999 < hh + 24
    · refine Pair.G ?_
      refine Pair_fd h 4 ?_ ?_
      · refine Ct.of (by decide +kernel) zX4_fit (Nat.le_of_ble_eq_true rfl) (by decide) (fun X go => ?_)
        refine go.1 [] 100 _ _ _ _ ?_
        refine cl (ct_shF_ok_0 (σ := σ) h1) ?_
        refine br_t (by decide) ?_
        refine cl (of_late h9 v.1.2.2.2 0 (by decide) (m := 24) (by decide) rfl (by omega) late) ?_
        refine br_f (by decide) ?_
        exact And.intro rfl rfl
      · refine Ct.of (by decide +kernel) zX5_fit (Nat.le_of_ble_eq_true rfl) (by decide) (fun X go => ?_)
        refine go.1 [] 100 _ _ _ _ ?_
        refine cl (ct_wrong_ok (s := 0) (σ := tel σ 4) (by decide) h0) ?_
        refine br_t (by decide) ?_
        refine cl (ow_late h9 (σ := tel σ 4) f46 v.1.2.2.2 (m := 24) rfl (by omega) late) ?_
        refine br_f (by decide) ?_
        refine cl (ct_finds (w := 4) (by decide) fd4 _) ?_
        exact And.intro rfl rfl
    · by_cases h6 : 6 < n
      · refine Pair.G ?_
        refine Pair_fd h 6 ?_ ?_
        · refine Ct.of (by decide +kernel) zX4_fit (Nat.le_of_ble_eq_true rfl) (by decide) (fun X go => ?_)
          refine go.1 [] 100 _ _ _ _ ?_
          refine cl (ct_shF_ok_0 (σ := σ) h1) ?_
          refine br_t (by decide) ?_
          refine cl (of_size h9 v.1.2.2.2 v.1.2.2.1 hn8 h6 0 (by decide) (m := 24) (by decide) rfl (by omega) late) ?_
          refine br_f (by decide) ?_
          exact And.intro rfl rfl
        · refine Ct.of (by decide +kernel) zX5_fit (Nat.le_of_ble_eq_true rfl) (by decide) (fun X go => ?_)
          refine go.1 [] 100 _ _ _ _ ?_
          refine cl (ct_wrong_ok (s := 0) (σ := tel σ 6) (by decide) h0) ?_
          refine br_t (by decide) ?_
          refine cl (ow_size h9 (σ := tel σ 6) f46 v.1.2.2.2 v.1.2.2.1 hn8 h6 (m := 24) rfl (by omega) late) ?_
          refine br_f (by decide) ?_
          refine cl (ct_finds (w := 6) (by decide) fd6 _) ?_
          exact And.intro rfl rfl
      · refine ⟨_, _, ctc_fit_0 h v h9 (by omega) late hl h1 e2, fun x σ1 ha => ⟨ha.1, ?_⟩⟩
        obtain ⟨-, o⟩ := ha
        have f1 : σ1 46 = flat (Tq 1 σ) := by rw [o.1 46 (by decide) (by decide)]; exact f46
        have z8 : Zr 78 (σ1 48) := by rw [o.1 48 (by decide) (by decide)]; exact z48
        exact ⟨_, ctm_fit (s := 0) (by decide) hl v h9 (by omega) late f1 z8 (by rw [o.1 52 (by decide) (by decide)]; exact h0) (by rw [o.1 53 (by decide) (by decide)]; exact e3) (g := σ 36) (fun i hi => by rw [o.1 54 (by decide) (by decide)]; exact (en' i hi).symm), fun x σ2 hb => ⟨hb.1, J_ord h o hb.2.1 hb.2.2⟩⟩

/-! the class, sheet 1 -/
theorem ctc_last_1 {n hh len : Nat} {σ : Sg} (v : VT n hh (Tq 1 σ)) (hl : len ≤ 40) (e2 : σ 37 2 = nI len) : Ct mX4_lastWordHour [.ref 0, .ref 37] σ (Ex (some (.int (if all1 (wkB (σ 38) n) (len / 3) = true then nI (lst (σ 38) (len / 3)) else -1))) σ) := by
  have hn8 := v.1.1
  generalize hww : len / 3 = w
  refine Ct.of (by decide +kernel) zX4_lastWordHour (Nat.le_of_ble_eq_true rfl) (by decide) (fun X go => ?_)
  refine go.1 [4] 100 _ _ _ _ ?_
  have L : ∀ d k, k + d = w → (∀ i, i < k → wkB (σ 38) n i = true) → X 4 [(0, .ref 0), (1, .ref 37), (2, .int (nI (lst (σ 38) k))), (3, .int (nI (3 * k)))] [] σ := by
    intro d
    induction d with
    | zero =>
      intro k hk hf
      have hk : k = w := by omega
      subst hk
      refine go.1 [4] 40 _ _ _ _ ?_
      refine br_t (show σ 37 2 < nI (3 * k) + nI 3 from by rw [e2, nI_add]; exact nI_lt (by omega) (by omega)) ?_
      exact And.intro (by rw [if_pos (all1_t hf)]) rfl
    | succ d ih =>
      intro k hk hf
      have bad : wkB (σ 38) n k = false → some (Value.int (-1)) = some (Value.int (if all1 (wkB (σ 38) n) w = true then nI (lst (σ 38) w) else -1)) := fun hb => by
        rw [if_neg (show ¬ all1 (wkB (σ 38) n) w = true from by rw [all1_f (show k < w by omega) hb]; decide)]
      refine go.1 [4] 90 _ _ _ _ ?_
      refine br_f (show ¬ σ 37 2 < nI (3 * k) + nI 3 from by rw [e2, nI_add]; exact nI_nlt (by omega) (by omega)) ?_
      refine Exists.intro (3 * k + 2) (And.intro ⟨nI_add (3 * k) 2, by omega, by omega⟩ ?_)
      refine Exists.intro (3 * k) (And.intro ⟨rfl, by omega, by omega⟩ ?_)
      cases c1 : bI (σ 38 (3 * k)) 0 ((n : Int) - 1) with
      | false =>
        refine cl (isS v c1) ?_
        refine br_t (by decide) ?_
        exact And.intro (bad (by unfold wkB; rw [c1]; rfl)) rfl
      | true =>
        refine cl (isS v c1) ?_
        refine br_f (by decide) ?_
        refine Exists.intro (3 * k + 1) (And.intro ⟨nI_add (3 * k) 1, by omega, by omega⟩ ?_)
        cases c2 : bI (σ 38 (3 * k + 1)) 0 11 with
        | false =>
          refine cl (isP c2 _) ?_
          refine br_t (by decide) ?_
          exact And.intro (bad (by unfold wkB; rw [c1, c2]; rfl)) rfl
        | true =>
          refine cl (isP c2 _) ?_
          refine br_f (by decide) ?_
          refine And.intro (fun (q : σ 38 (3 * k + 2) < 0) => ?_) (fun (q : ¬ σ 38 (3 * k + 2) < 0) => ?_)
          · rw [lt0] at q
            exact And.intro (bad (by unfold wkB; rw [c1, c2, bI_f.mpr (fun z => by omega)]; rfl)) rfl
          · rw [lt0] at q
            refine And.intro (fun (z : σ 38 (3 * k + 2) ≤ 24) => ?_) (fun (z : ¬ σ 38 (3 * k + 2) ≤ 24) => ?_)
            · rw [i_le, show (24 : Int32).toInt = 24 from rfl] at z
              have c3 : bI (σ 38 (3 * k + 2)) 0 24 = true := bI_t.mpr ⟨by omega, by omega⟩
              have hk1 : wkB (σ 38) n k = true := by unfold wkB; rw [c1, c2, c3]; rfl
              obtain ⟨y, hy0, hy, ey⟩ := bI_n c3 (by decide) (by decide)
              have ihk := ih (k + 1) (by omega) (fun i hi => by
                by_cases e : i = k
                · rw [e]; exact hk1
                · exact hf i (by omega))
              have hll := (lst_le hn8 k hf).1
              rw [i3 k, show nI (lst (σ 38) (k + 1)) = (if nI (lst (σ 38) k) < σ 38 (3 * k + 2) then σ 38 (3 * k + 2) else nI (lst (σ 38) k)) from by
                rw [lst, ey, nI_clamp (show y < 2 ^ 31 by omega)]
                by_cases e : lst (σ 38) k < y
                · rw [if_pos e, if_pos (nI_lt e (by omega))]
                · rw [if_neg e, if_neg (nI_nlt (by omega) (by omega))]] at ihk
              refine go.2 [0, 1, 2, 3] _ _ _ _ ?_
              exact ihk
            · rw [i_le, show (24 : Int32).toInt = 24 from rfl] at z
              exact And.intro (bad (by unfold wkB; rw [c1, c2, bI_f.mpr (fun z' => by omega)]; rfl)) rfl
  exact L w 0 (by omega) (fun i hi => absurd hi (by omega))
theorem ctc_so_1 {n hh h1 len last : Nat} {U τ : Sg} (v : VT n hh U) (v1 : VT n h1 (Tq 1 τ)) (zu : ZT U) (hl : len ≤ 40) (e2 : τ 37 2 = nI len) (hla : last ≤ 24) (hm : hh ≤ 1000) (hwk : ∀ i, i < len / 3 → wkB (τ 38) n i = true) {lv : Int32} (el : lv = nI last) : Ct mX4_wordsAreSo [.ref 0, .ref 37, .int lv] (putSq 10 U τ) (fun x σ' => x = some (.int (zb (all1 (fun h => all1 (soW (τ 38) (hrsT n U h) h) (len / 3)) (last + 1)))) ∧ ∃ U', ZT U' ∧ σ' = putSq 10 U' τ) := by
  subst el
  have hn8 := v.1.1
  generalize hww : len / 3 = w at hwk ⊢
  refine Ct.of (by decide +kernel) zX4_wordsAreSo (Nat.le_of_ble_eq_true rfl) (by decide) (fun X go => ?_)
  refine go.1 [2] 100 _ _ _ _ ?_
  have L : ∀ d h, h + d = last + 1 → (∀ i, i < h → all1 (soW (τ 38) (hrsT n U i) i) w = true) → X 2 [(0, .ref 0), (1, .ref 37), (2, .int (nI last)), (3, .int (nI h))] [] (putSq 10 (hrsT n U h) τ) := by
    intro d
    induction d with
    | zero =>
      intro h hh hf
      refine go.1 [2] 40 _ _ _ _ ?_
      refine br_t (nI_lt (by omega) (by omega)) ?_
      have hh : h = last + 1 := by omega
      subst hh
      refine And.intro (Or.inr rfl) (And.intro ?_ ⟨_, ZT_hrs hn8 zu _, rfl⟩)
      rw [all1_t (P := fun h => all1 (soW (τ 38) (hrsT n U h) h) w) hf]
      rfl
    | succ d ih =>
      intro h hhd hf
      have vh := VT_hrs v h (by omega)
      have v1' : ∀ V : Sg, VT n h1 (Tq 1 (putSq 10 V τ)) := fun V => VT_cong (fun j hj => (putSq_out (by omega)).symm) v1
      have LI : ∀ d k, k + d = w → (∀ i, i < k → soW (τ 38) (hrsT n U h) h i = true) → X 10 [(0, .ref 0), (1, .ref 37), (2, .int (nI last)), (3, .int (nI h)), (4, .int (nI (3 * k)))] [] (putSq 10 (hrsT n U h) τ) := by
        intro d
        induction d with
        | zero =>
          intro k hk hg
          have hk : k = w := by omega
          subst hk
          refine go.1 [2, 10] 60 _ _ _ _ ?_
          refine br_t (show τ 37 2 < nI (3 * k) + nI 3 from by rw [e2, nI_add]; exact nI_lt (by omega) (by omega)) ?_
          refine cl (ct_passHour_10 vh τ) ?_
          have ihk := ih (h + 1) (by omega) (fun i hi => by
            by_cases e : i = h
            · rw [e]; exact all1_t hg
            · exact hf i (by omega))
          rw [nI_succ h] at ihk
          refine go.2 [0, 1, 2, 3] _ _ _ _ ?_
          exact ihk
        | succ d ih2 =>
          intro k hk hg
          obtain ⟨⟨a, ha, ea⟩, ⟨c1, -⟩, -⟩ := wkB_t hn8 (hwk k (by omega))
          have hca : (τ 38 (3 * k)).toNatClampNeg = a := by rw [ea]; exact nI_clamp (by omega)
          have nxt : soW (τ 38) (hrsT n U h) h k = true → X 10 [(0, .ref 0), (1, .ref 37), (2, .int (nI last)), (3, .int (nI h)), (4, .int (nI (3 * k) + 3))] [] (putSq 10 (hrsT n U h) τ) := fun hs => by
            have ihk := ih2 (k + 1) (by omega) (fun i hi => by
              by_cases e : i = k
              · rw [e]; exact hs
              · exact hg i (by omega))
            rw [i3 k] at ihk
            exact ihk
          refine go.1 [10] 90 _ _ _ _ ?_
          refine br_f (show ¬ τ 37 2 < nI (3 * k) + nI 3 from by rw [e2, nI_add]; exact nI_nlt (by omega) (by omega)) ?_
          refine Exists.intro (3 * k) (And.intro ⟨rfl, by omega, by omega⟩ ?_)
          refine Exists.intro (3 * k + 2) (And.intro ⟨nI_add (3 * k) 2, by omega, by omega⟩ ?_)
          refine And.intro (fun (q : τ 38 (3 * k + 2) = nI h) => ?_) (fun (q : ¬ τ 38 (3 * k + 2) = nI h) => ?_)
          · refine cl (isS (v1' (hrsT n U h)) c1) ?_
            refine br_f (by decide) ?_
            refine Exists.intro (a) (And.intro ⟨ea, by omega, by omega⟩ ?_)
            refine Exists.intro (3 * k + 1) (And.intro ⟨nI_add (3 * k) 1, by omega, by omega⟩ ?_)
            refine And.intro (fun (z : hrsT n U h 4 a = τ 38 (3 * k + 1)) => ?_) (fun (z : ¬ hrsT n U h 4 a = τ 38 (3 * k + 1)) => ?_)
            · refine go.2 [0, 1, 2, 3, 4] _ _ _ _ ?_
              exact nxt (by unfold soW; rw [hca, decide_eq_true z, Bool.or_true])
            · refine And.intro (Or.inl rfl) (And.intro ?_ ⟨_, ZT_hrs hn8 zu _, rfl⟩)
              rw [all1_f (P := fun h => all1 (soW (τ 38) (hrsT n U h) h) w) (k := h) (by omega) (all1_f (k := k) (by omega) (by unfold soW; rw [hca, decide_eq_false z, decide_eq_true q]; rfl))]
              rfl
          · refine go.2 [0, 1, 2, 3, 4] _ _ _ _ ?_
            exact nxt (by unfold soW; rw [decide_eq_false q]; rfl)
      refine go.1 [2, 10] 60 _ _ _ _ ?_
      refine br_f (nI_nlt (by omega) (by omega)) ?_
      exact LI w 0 (by omega) (fun i hi => absurd hi (by omega))
  exact L (last + 1) 0 (by omega) (fun i hi => absurd hi (by omega))
theorem ctc_fit_1 {σ : Sg} (h : J σ) {n hh len : Nat} (v : VT n hh (Tq 1 σ)) (h9 : hh ≤ 999) (h6 : n ≤ 6) (late : ¬ 999 < hh + 24) (hl : len ≤ 40) (b1 : ¬ σ 37 1 = 0) (e2 : σ 37 2 = nI len) : Ct mX4_fit [.ref 0, .int (nI 1)] σ (fun x σ' => x = some (.int (if all1 (wkB (σ 38) n) (len / 3) = true then nI (cB (ftP (σ 38) n (len / 3) (Tq 1 σ)) (nOd n)) else 0)) ∧ OkC σ σ') := by
  have z1 := h.2.1.1
  have z10 := h.2.1.2.1
  have e10 := v.1.2.2.2
  have e9 := v.1.2.2.1
  have hn8 := v.1.1
  obtain ⟨n0, n7⟩ := nOd_pos h6
  have clast := ctc_last_1 v hl e2
  have vσ := v
  obtain ⟨T, hT⟩ : ∃ T : Sg, T = Tq 1 σ := ⟨_, rfl⟩
  rw [← hT] at v z1 ⊢
  generalize hN : nOd n = N at n0 n7 ⊢
  generalize hww : len / 3 = w at clast ⊢
  refine Ct.of (by decide +kernel) zX4_fit (Nat.le_of_ble_eq_true rfl) (by decide) (fun X go => ?_)
  refine go.1 [64] 100 _ _ _ _ ?_
  refine cl (ct_shF_ok_1 b1) ?_
  refine br_t (by decide) ?_
  refine cl (of_ok h9 e10 e9 h6 0 (by decide) (m := 24) (by decide) rfl (by omega) late) ?_
  refine br_t (by decide) ?_
  refine Exists.intro (1) (And.intro ⟨rfl, by decide, by omega⟩ ?_)
  cases hall : all1 (wkB (σ 38) n) w with
  | false =>
    rw [hall, if_neg (show ¬ false = true by decide)] at clast
    refine cl clast ?_
    refine br_f (by decide) ?_
    exact And.intro rfl (OkC_rf z10)
  | true =>
    have hwk := fun i hi => all1_at hall i hi
    have hla := (lst_le hn8 w hwk).1
    rw [hall, if_pos rfl] at clast
    refine cl clast ?_
    refine br_t (show 0 ≤ nI (lst (σ 38) w) from nI_pos' (by omega)) ?_
    have L : ∀ d k, k + d = N → ∀ τ : Sg, OkC σ τ → τ 28 1 = nI n → (0 < d → ∀ i, i < n → τ 29 i = nI (od n k i)) → X 64 [(0, .ref 0), (1, .int (nI 1)), (2, .int 0), (3, .int (nI (lst (σ 38) w))), (4, .int (nI (cB (ftP (σ 38) n w T) k))), (5, .int (nI N)), (6, .int (nI k))] [] τ := by
      intro d
      induction d with
      | zero =>
        intro k hk τ o e1 e2
        have hk : k = N := by omega
        subst hk
        refine go.1 [64] 40 _ _ _ _ ?_
        refine br_t (nI_le (Nat.le_refl _) (by omega)) ?_
        exact And.intro (by rw [hall]; rfl) o
      | succ d ih =>
        intro k hk τ o e1 e2'
        have hkN : k < nOd n := by omega
        have e2' := e2' (by omega)
        have ol := od_lt h6 hkN
        have vl := VT_lay v ol (od_inj h6 hkN)
        have c1 := ct_tryG (fun j hj => by rw [hT]; exact OkC_1 o j hj) v z1 o.2 ol e2'
        have eN : τ 38 = σ 38 := o.1 38 (by decide) (by decide)
        have eO : τ 37 = σ 37 := o.1 37 (by decide) (by decide)
        have c2 := ctc_so_1 (U := layT T n (od n k)) (τ := τ) (last := lst (σ 38) w) vl (VT_cong (fun j hj => (OkC_1 o j hj).symm) vσ) (ZT_lay z1 hn8 _) hl (by rw [eO]; exact e2) hla (by omega) (by rw [eN, hww]; exact hwk) rfl
        rw [eN, hww, so_last hn8 hwk (fun h => hrsT n (layT T n (od n k)) h)] at c2
        have T92 : ∀ (V : Sg), ZT V → X 92 [(0, .ref 0), (1, .int (nI 1)), (2, .int 0), (3, .int (nI (lst (σ 38) w))), (4, .int (nI (cB (ftP (σ 38) n w T) (k + 1)))), (5, .int (nI N)), (6, .int (nI k))] [] (putSq 10 V τ) := by
          intro V zv
          refine go.1 [64] 40 _ _ _ _ ?_
          refine clG (ct_advance (σ := putSq 10 V τ) hn8 e1 e2' (fun i hi => by have := ol i hi; omega)) (fun x τ3 hr => ?_)
          obtain ⟨rfl, g, rfl, hg⟩ := hr
          have ihk := ih (k + 1) (by omega) (upr (putSq 10 V τ) 29 g) (OkC_upr (OkC_put o zv) (by decide) g) e1 (fun hd i hi => by
            obtain ⟨g', q1, q2⟩ := od_next h6 (show k + 1 < nOd n by omega)
            rw [upr_in, hg i hi, getD_some q1, q2 i hi])
          rw [nI_succ k] at ihk
          exact ihk
        refine go.1 [64, 92] 80 _ _ _ _ ?_
        refine br_f (nI_ge (by omega) (by omega)) ?_
        refine cl c1 ?_
        refine Exists.intro (1) (And.intro ⟨rfl, by decide, by omega⟩ ?_)
        refine clG c2 (fun x τ2 hr => ?_)
        obtain ⟨hx, V, zv, rfl⟩ := hr
        have hx : x = some (.int (zb (ftP (σ 38) n w T k))) := hx
        cases q : ftP (σ 38) n w T k with
        | true =>
          rw [q] at hx
          subst hx
          refine br_f (show ¬ (1 : Int32) = 0 by decide) ?_
          have t := T92 V zv
          rw [show nI (cB (ftP (σ 38) n w T) (k + 1)) = nI (cB (ftP (σ 38) n w T) k) + 1 from by rw [cB_t q]; exact nI_succ _] at t
          exact t
        | false =>
          rw [q] at hx
          subst hx
          refine br_t (show (0 : Int32) = 0 by decide) ?_
          have t := T92 V zv
          rw [cB_f (show ¬ ftP (σ 38) n w T k = true by rw [q]; decide)] at t
          exact t
    refine cl (ct_obegin hn8 (show σ 1 9 = nI n from e9) σ) ?_
    have hfa : nI (fa n) = nI N := by rw [fa_len n (by omega), hN]
    have L0 := L N 0 (by omega) (upr (up2 σ 28 1 (nI n)) 29 (mx nI (σ 29) n)) (OkC_upr (OkC_upr (OkC_rf z10) (by decide) _) (by decide) _) rfl (fun _ i hi => by
      rw [upr_in, od_0 h6 i hi]
      exact if_pos hi)
    rw [← hfa] at L0
    exact L0
theorem P_fit_1 {σ : Sg} (h : J σ) : PairG mX4_fit mX5_fit [.int (nI 1)] σ := by
  have f46 := J46 h
  obtain ⟨n, hh, v, h9⟩ := h.1
  have hn8 := v.1.1
  have z1 := h.2.1.1
  have z48 := h.2.2.2.1.1
  have z46 := J_z46 h
  obtain ⟨len, hl, e2, e3, e1, eb, en'⟩ := J_sh h 1 (by decide)
  have e1 : σ 37 1 = σ 52 1 := e1
  by_cases h0 : σ 52 1 = 0
  · refine Pair.G ?_
    refine Pair_fd h 5 ?_ ?_
    · refine Ct.of (by decide +kernel) zX4_fit (Nat.le_of_ble_eq_true rfl) (by decide) (fun X go => ?_)
      refine go.1 [] 100 _ _ _ _ ?_
      refine cl (ct_shF_no_1 (σ := σ) (e1.trans h0)) ?_
      refine br_f (by decide) ?_
      refine br_f (by decide) ?_
      exact And.intro rfl rfl
    · refine Ct.of (by decide +kernel) zX5_fit (Nat.le_of_ble_eq_true rfl) (by decide) (fun X go => ?_)
      refine go.1 [] 100 _ _ _ _ ?_
      refine cl (ct_wrong_no (s := 1) (σ := tel σ 5) (by decide) h0) ?_
      refine br_f (by decide) ?_
      refine br_f (by decide) ?_
      refine cl (ct_finds (w := 5) (by decide) fd5 _) ?_
      exact And.intro rfl rfl
  · have h1 : ¬ σ 37 1 = 0 := fun q => h0 (e1.symm.trans q)
    by_cases late : 999 < hh + 24
    · refine Pair.G ?_
      refine Pair_fd h 4 ?_ ?_
      · refine Ct.of (by decide +kernel) zX4_fit (Nat.le_of_ble_eq_true rfl) (by decide) (fun X go => ?_)
        refine go.1 [] 100 _ _ _ _ ?_
        refine cl (ct_shF_ok_1 (σ := σ) h1) ?_
        refine br_t (by decide) ?_
        refine cl (of_late h9 v.1.2.2.2 0 (by decide) (m := 24) (by decide) rfl (by omega) late) ?_
        refine br_f (by decide) ?_
        exact And.intro rfl rfl
      · refine Ct.of (by decide +kernel) zX5_fit (Nat.le_of_ble_eq_true rfl) (by decide) (fun X go => ?_)
        refine go.1 [] 100 _ _ _ _ ?_
        refine cl (ct_wrong_ok (s := 1) (σ := tel σ 4) (by decide) h0) ?_
        refine br_t (by decide) ?_
        refine cl (ow_late h9 (σ := tel σ 4) f46 v.1.2.2.2 (m := 24) rfl (by omega) late) ?_
        refine br_f (by decide) ?_
        refine cl (ct_finds (w := 4) (by decide) fd4 _) ?_
        exact And.intro rfl rfl
    · by_cases h6 : 6 < n
      · refine Pair.G ?_
        refine Pair_fd h 6 ?_ ?_
        · refine Ct.of (by decide +kernel) zX4_fit (Nat.le_of_ble_eq_true rfl) (by decide) (fun X go => ?_)
          refine go.1 [] 100 _ _ _ _ ?_
          refine cl (ct_shF_ok_1 (σ := σ) h1) ?_
          refine br_t (by decide) ?_
          refine cl (of_size h9 v.1.2.2.2 v.1.2.2.1 hn8 h6 0 (by decide) (m := 24) (by decide) rfl (by omega) late) ?_
          refine br_f (by decide) ?_
          exact And.intro rfl rfl
        · refine Ct.of (by decide +kernel) zX5_fit (Nat.le_of_ble_eq_true rfl) (by decide) (fun X go => ?_)
          refine go.1 [] 100 _ _ _ _ ?_
          refine cl (ct_wrong_ok (s := 1) (σ := tel σ 6) (by decide) h0) ?_
          refine br_t (by decide) ?_
          refine cl (ow_size h9 (σ := tel σ 6) f46 v.1.2.2.2 v.1.2.2.1 hn8 h6 (m := 24) rfl (by omega) late) ?_
          refine br_f (by decide) ?_
          refine cl (ct_finds (w := 6) (by decide) fd6 _) ?_
          exact And.intro rfl rfl
      · refine ⟨_, _, ctc_fit_1 h v h9 (by omega) late hl h1 e2, fun x σ1 ha => ⟨ha.1, ?_⟩⟩
        obtain ⟨-, o⟩ := ha
        have f1 : σ1 46 = flat (Tq 1 σ) := by rw [o.1 46 (by decide) (by decide)]; exact f46
        have z8 : Zr 78 (σ1 48) := by rw [o.1 48 (by decide) (by decide)]; exact z48
        exact ⟨_, ctm_fit (s := 1) (by decide) hl v h9 (by omega) late f1 z8 (by rw [o.1 52 (by decide) (by decide)]; exact h0) (by rw [o.1 53 (by decide) (by decide)]; exact e3) (g := σ 38) (fun i hi => by rw [o.1 54 (by decide) (by decide)]; exact (en' i hi).symm), fun x σ2 hb => ⟨hb.1, J_ord h o hb.2.1 hb.2.2⟩⟩

/-! the class, sheet 2 -/
theorem ctc_last_2 {n hh len : Nat} {σ : Sg} (v : VT n hh (Tq 1 σ)) (hl : len ≤ 40) (e2 : σ 39 2 = nI len) : Ct mX4_lastWordHour [.ref 0, .ref 39] σ (Ex (some (.int (if all1 (wkB (σ 40) n) (len / 3) = true then nI (lst (σ 40) (len / 3)) else -1))) σ) := by
  have hn8 := v.1.1
  generalize hww : len / 3 = w
  refine Ct.of (by decide +kernel) zX4_lastWordHour (Nat.le_of_ble_eq_true rfl) (by decide) (fun X go => ?_)
  refine go.1 [4] 100 _ _ _ _ ?_
  have L : ∀ d k, k + d = w → (∀ i, i < k → wkB (σ 40) n i = true) → X 4 [(0, .ref 0), (1, .ref 39), (2, .int (nI (lst (σ 40) k))), (3, .int (nI (3 * k)))] [] σ := by
    intro d
    induction d with
    | zero =>
      intro k hk hf
      have hk : k = w := by omega
      subst hk
      refine go.1 [4] 40 _ _ _ _ ?_
      refine br_t (show σ 39 2 < nI (3 * k) + nI 3 from by rw [e2, nI_add]; exact nI_lt (by omega) (by omega)) ?_
      exact And.intro (by rw [if_pos (all1_t hf)]) rfl
    | succ d ih =>
      intro k hk hf
      have bad : wkB (σ 40) n k = false → some (Value.int (-1)) = some (Value.int (if all1 (wkB (σ 40) n) w = true then nI (lst (σ 40) w) else -1)) := fun hb => by
        rw [if_neg (show ¬ all1 (wkB (σ 40) n) w = true from by rw [all1_f (show k < w by omega) hb]; decide)]
      refine go.1 [4] 90 _ _ _ _ ?_
      refine br_f (show ¬ σ 39 2 < nI (3 * k) + nI 3 from by rw [e2, nI_add]; exact nI_nlt (by omega) (by omega)) ?_
      refine Exists.intro (3 * k + 2) (And.intro ⟨nI_add (3 * k) 2, by omega, by omega⟩ ?_)
      refine Exists.intro (3 * k) (And.intro ⟨rfl, by omega, by omega⟩ ?_)
      cases c1 : bI (σ 40 (3 * k)) 0 ((n : Int) - 1) with
      | false =>
        refine cl (isS v c1) ?_
        refine br_t (by decide) ?_
        exact And.intro (bad (by unfold wkB; rw [c1]; rfl)) rfl
      | true =>
        refine cl (isS v c1) ?_
        refine br_f (by decide) ?_
        refine Exists.intro (3 * k + 1) (And.intro ⟨nI_add (3 * k) 1, by omega, by omega⟩ ?_)
        cases c2 : bI (σ 40 (3 * k + 1)) 0 11 with
        | false =>
          refine cl (isP c2 _) ?_
          refine br_t (by decide) ?_
          exact And.intro (bad (by unfold wkB; rw [c1, c2]; rfl)) rfl
        | true =>
          refine cl (isP c2 _) ?_
          refine br_f (by decide) ?_
          refine And.intro (fun (q : σ 40 (3 * k + 2) < 0) => ?_) (fun (q : ¬ σ 40 (3 * k + 2) < 0) => ?_)
          · rw [lt0] at q
            exact And.intro (bad (by unfold wkB; rw [c1, c2, bI_f.mpr (fun z => by omega)]; rfl)) rfl
          · rw [lt0] at q
            refine And.intro (fun (z : σ 40 (3 * k + 2) ≤ 24) => ?_) (fun (z : ¬ σ 40 (3 * k + 2) ≤ 24) => ?_)
            · rw [i_le, show (24 : Int32).toInt = 24 from rfl] at z
              have c3 : bI (σ 40 (3 * k + 2)) 0 24 = true := bI_t.mpr ⟨by omega, by omega⟩
              have hk1 : wkB (σ 40) n k = true := by unfold wkB; rw [c1, c2, c3]; rfl
              obtain ⟨y, hy0, hy, ey⟩ := bI_n c3 (by decide) (by decide)
              have ihk := ih (k + 1) (by omega) (fun i hi => by
                by_cases e : i = k
                · rw [e]; exact hk1
                · exact hf i (by omega))
              have hll := (lst_le hn8 k hf).1
              rw [i3 k, show nI (lst (σ 40) (k + 1)) = (if nI (lst (σ 40) k) < σ 40 (3 * k + 2) then σ 40 (3 * k + 2) else nI (lst (σ 40) k)) from by
                rw [lst, ey, nI_clamp (show y < 2 ^ 31 by omega)]
                by_cases e : lst (σ 40) k < y
                · rw [if_pos e, if_pos (nI_lt e (by omega))]
                · rw [if_neg e, if_neg (nI_nlt (by omega) (by omega))]] at ihk
              refine go.2 [0, 1, 2, 3] _ _ _ _ ?_
              exact ihk
            · rw [i_le, show (24 : Int32).toInt = 24 from rfl] at z
              exact And.intro (bad (by unfold wkB; rw [c1, c2, bI_f.mpr (fun z' => by omega)]; rfl)) rfl
  exact L w 0 (by omega) (fun i hi => absurd hi (by omega))
theorem ctc_so_2 {n hh h1 len last : Nat} {U τ : Sg} (v : VT n hh U) (v1 : VT n h1 (Tq 1 τ)) (zu : ZT U) (hl : len ≤ 40) (e2 : τ 39 2 = nI len) (hla : last ≤ 24) (hm : hh ≤ 1000) (hwk : ∀ i, i < len / 3 → wkB (τ 40) n i = true) {lv : Int32} (el : lv = nI last) : Ct mX4_wordsAreSo [.ref 0, .ref 39, .int lv] (putSq 10 U τ) (fun x σ' => x = some (.int (zb (all1 (fun h => all1 (soW (τ 40) (hrsT n U h) h) (len / 3)) (last + 1)))) ∧ ∃ U', ZT U' ∧ σ' = putSq 10 U' τ) := by
  subst el
  have hn8 := v.1.1
  generalize hww : len / 3 = w at hwk ⊢
  refine Ct.of (by decide +kernel) zX4_wordsAreSo (Nat.le_of_ble_eq_true rfl) (by decide) (fun X go => ?_)
  refine go.1 [2] 100 _ _ _ _ ?_
  have L : ∀ d h, h + d = last + 1 → (∀ i, i < h → all1 (soW (τ 40) (hrsT n U i) i) w = true) → X 2 [(0, .ref 0), (1, .ref 39), (2, .int (nI last)), (3, .int (nI h))] [] (putSq 10 (hrsT n U h) τ) := by
    intro d
    induction d with
    | zero =>
      intro h hh hf
      refine go.1 [2] 40 _ _ _ _ ?_
      refine br_t (nI_lt (by omega) (by omega)) ?_
      have hh : h = last + 1 := by omega
      subst hh
      refine And.intro (Or.inr rfl) (And.intro ?_ ⟨_, ZT_hrs hn8 zu _, rfl⟩)
      rw [all1_t (P := fun h => all1 (soW (τ 40) (hrsT n U h) h) w) hf]
      rfl
    | succ d ih =>
      intro h hhd hf
      have vh := VT_hrs v h (by omega)
      have v1' : ∀ V : Sg, VT n h1 (Tq 1 (putSq 10 V τ)) := fun V => VT_cong (fun j hj => (putSq_out (by omega)).symm) v1
      have LI : ∀ d k, k + d = w → (∀ i, i < k → soW (τ 40) (hrsT n U h) h i = true) → X 10 [(0, .ref 0), (1, .ref 39), (2, .int (nI last)), (3, .int (nI h)), (4, .int (nI (3 * k)))] [] (putSq 10 (hrsT n U h) τ) := by
        intro d
        induction d with
        | zero =>
          intro k hk hg
          have hk : k = w := by omega
          subst hk
          refine go.1 [2, 10] 60 _ _ _ _ ?_
          refine br_t (show τ 39 2 < nI (3 * k) + nI 3 from by rw [e2, nI_add]; exact nI_lt (by omega) (by omega)) ?_
          refine cl (ct_passHour_10 vh τ) ?_
          have ihk := ih (h + 1) (by omega) (fun i hi => by
            by_cases e : i = h
            · rw [e]; exact all1_t hg
            · exact hf i (by omega))
          rw [nI_succ h] at ihk
          refine go.2 [0, 1, 2, 3] _ _ _ _ ?_
          exact ihk
        | succ d ih2 =>
          intro k hk hg
          obtain ⟨⟨a, ha, ea⟩, ⟨c1, -⟩, -⟩ := wkB_t hn8 (hwk k (by omega))
          have hca : (τ 40 (3 * k)).toNatClampNeg = a := by rw [ea]; exact nI_clamp (by omega)
          have nxt : soW (τ 40) (hrsT n U h) h k = true → X 10 [(0, .ref 0), (1, .ref 39), (2, .int (nI last)), (3, .int (nI h)), (4, .int (nI (3 * k) + 3))] [] (putSq 10 (hrsT n U h) τ) := fun hs => by
            have ihk := ih2 (k + 1) (by omega) (fun i hi => by
              by_cases e : i = k
              · rw [e]; exact hs
              · exact hg i (by omega))
            rw [i3 k] at ihk
            exact ihk
          refine go.1 [10] 90 _ _ _ _ ?_
          refine br_f (show ¬ τ 39 2 < nI (3 * k) + nI 3 from by rw [e2, nI_add]; exact nI_nlt (by omega) (by omega)) ?_
          refine Exists.intro (3 * k) (And.intro ⟨rfl, by omega, by omega⟩ ?_)
          refine Exists.intro (3 * k + 2) (And.intro ⟨nI_add (3 * k) 2, by omega, by omega⟩ ?_)
          refine And.intro (fun (q : τ 40 (3 * k + 2) = nI h) => ?_) (fun (q : ¬ τ 40 (3 * k + 2) = nI h) => ?_)
          · refine cl (isS (v1' (hrsT n U h)) c1) ?_
            refine br_f (by decide) ?_
            refine Exists.intro (a) (And.intro ⟨ea, by omega, by omega⟩ ?_)
            refine Exists.intro (3 * k + 1) (And.intro ⟨nI_add (3 * k) 1, by omega, by omega⟩ ?_)
            refine And.intro (fun (z : hrsT n U h 4 a = τ 40 (3 * k + 1)) => ?_) (fun (z : ¬ hrsT n U h 4 a = τ 40 (3 * k + 1)) => ?_)
            · refine go.2 [0, 1, 2, 3, 4] _ _ _ _ ?_
              exact nxt (by unfold soW; rw [hca, decide_eq_true z, Bool.or_true])
            · refine And.intro (Or.inl rfl) (And.intro ?_ ⟨_, ZT_hrs hn8 zu _, rfl⟩)
              rw [all1_f (P := fun h => all1 (soW (τ 40) (hrsT n U h) h) w) (k := h) (by omega) (all1_f (k := k) (by omega) (by unfold soW; rw [hca, decide_eq_false z, decide_eq_true q]; rfl))]
              rfl
          · refine go.2 [0, 1, 2, 3, 4] _ _ _ _ ?_
            exact nxt (by unfold soW; rw [decide_eq_false q]; rfl)
      refine go.1 [2, 10] 60 _ _ _ _ ?_
      refine br_f (nI_nlt (by omega) (by omega)) ?_
      exact LI w 0 (by omega) (fun i hi => absurd hi (by omega))
  exact L (last + 1) 0 (by omega) (fun i hi => absurd hi (by omega))
theorem ctc_fit_2 {σ : Sg} (h : J σ) {n hh len : Nat} (v : VT n hh (Tq 1 σ)) (h9 : hh ≤ 999) (h6 : n ≤ 6) (late : ¬ 999 < hh + 24) (hl : len ≤ 40) (b1 : ¬ σ 39 1 = 0) (e2 : σ 39 2 = nI len) : Ct mX4_fit [.ref 0, .int (nI 2)] σ (fun x σ' => x = some (.int (if all1 (wkB (σ 40) n) (len / 3) = true then nI (cB (ftP (σ 40) n (len / 3) (Tq 1 σ)) (nOd n)) else 0)) ∧ OkC σ σ') := by
  have z1 := h.2.1.1
  have z10 := h.2.1.2.1
  have e10 := v.1.2.2.2
  have e9 := v.1.2.2.1
  have hn8 := v.1.1
  obtain ⟨n0, n7⟩ := nOd_pos h6
  have clast := ctc_last_2 v hl e2
  have vσ := v
  obtain ⟨T, hT⟩ : ∃ T : Sg, T = Tq 1 σ := ⟨_, rfl⟩
  rw [← hT] at v z1 ⊢
  generalize hN : nOd n = N at n0 n7 ⊢
  generalize hww : len / 3 = w at clast ⊢
  refine Ct.of (by decide +kernel) zX4_fit (Nat.le_of_ble_eq_true rfl) (by decide) (fun X go => ?_)
  refine go.1 [64] 100 _ _ _ _ ?_
  refine cl (ct_shF_ok_2 b1) ?_
  refine br_t (by decide) ?_
  refine cl (of_ok h9 e10 e9 h6 0 (by decide) (m := 24) (by decide) rfl (by omega) late) ?_
  refine br_t (by decide) ?_
  refine Exists.intro (2) (And.intro ⟨rfl, by decide, by omega⟩ ?_)
  cases hall : all1 (wkB (σ 40) n) w with
  | false =>
    rw [hall, if_neg (show ¬ false = true by decide)] at clast
    refine cl clast ?_
    refine br_f (by decide) ?_
    exact And.intro rfl (OkC_rf z10)
  | true =>
    have hwk := fun i hi => all1_at hall i hi
    have hla := (lst_le hn8 w hwk).1
    rw [hall, if_pos rfl] at clast
    refine cl clast ?_
    refine br_t (show 0 ≤ nI (lst (σ 40) w) from nI_pos' (by omega)) ?_
    have L : ∀ d k, k + d = N → ∀ τ : Sg, OkC σ τ → τ 28 1 = nI n → (0 < d → ∀ i, i < n → τ 29 i = nI (od n k i)) → X 64 [(0, .ref 0), (1, .int (nI 2)), (2, .int 0), (3, .int (nI (lst (σ 40) w))), (4, .int (nI (cB (ftP (σ 40) n w T) k))), (5, .int (nI N)), (6, .int (nI k))] [] τ := by
      intro d
      induction d with
      | zero =>
        intro k hk τ o e1 e2
        have hk : k = N := by omega
        subst hk
        refine go.1 [64] 40 _ _ _ _ ?_
        refine br_t (nI_le (Nat.le_refl _) (by omega)) ?_
        exact And.intro (by rw [hall]; rfl) o
      | succ d ih =>
        intro k hk τ o e1 e2'
        have hkN : k < nOd n := by omega
        have e2' := e2' (by omega)
        have ol := od_lt h6 hkN
        have vl := VT_lay v ol (od_inj h6 hkN)
        have c1 := ct_tryG (fun j hj => by rw [hT]; exact OkC_1 o j hj) v z1 o.2 ol e2'
        have eN : τ 40 = σ 40 := o.1 40 (by decide) (by decide)
        have eO : τ 39 = σ 39 := o.1 39 (by decide) (by decide)
        have c2 := ctc_so_2 (U := layT T n (od n k)) (τ := τ) (last := lst (σ 40) w) vl (VT_cong (fun j hj => (OkC_1 o j hj).symm) vσ) (ZT_lay z1 hn8 _) hl (by rw [eO]; exact e2) hla (by omega) (by rw [eN, hww]; exact hwk) rfl
        rw [eN, hww, so_last hn8 hwk (fun h => hrsT n (layT T n (od n k)) h)] at c2
        have T92 : ∀ (V : Sg), ZT V → X 92 [(0, .ref 0), (1, .int (nI 2)), (2, .int 0), (3, .int (nI (lst (σ 40) w))), (4, .int (nI (cB (ftP (σ 40) n w T) (k + 1)))), (5, .int (nI N)), (6, .int (nI k))] [] (putSq 10 V τ) := by
          intro V zv
          refine go.1 [64] 40 _ _ _ _ ?_
          refine clG (ct_advance (σ := putSq 10 V τ) hn8 e1 e2' (fun i hi => by have := ol i hi; omega)) (fun x τ3 hr => ?_)
          obtain ⟨rfl, g, rfl, hg⟩ := hr
          have ihk := ih (k + 1) (by omega) (upr (putSq 10 V τ) 29 g) (OkC_upr (OkC_put o zv) (by decide) g) e1 (fun hd i hi => by
            obtain ⟨g', q1, q2⟩ := od_next h6 (show k + 1 < nOd n by omega)
            rw [upr_in, hg i hi, getD_some q1, q2 i hi])
          rw [nI_succ k] at ihk
          exact ihk
        refine go.1 [64, 92] 80 _ _ _ _ ?_
        refine br_f (nI_ge (by omega) (by omega)) ?_
        refine cl c1 ?_
        refine Exists.intro (2) (And.intro ⟨rfl, by decide, by omega⟩ ?_)
        refine clG c2 (fun x τ2 hr => ?_)
        obtain ⟨hx, V, zv, rfl⟩ := hr
        have hx : x = some (.int (zb (ftP (σ 40) n w T k))) := hx
        cases q : ftP (σ 40) n w T k with
        | true =>
          rw [q] at hx
          subst hx
          refine br_f (show ¬ (1 : Int32) = 0 by decide) ?_
          have t := T92 V zv
          rw [show nI (cB (ftP (σ 40) n w T) (k + 1)) = nI (cB (ftP (σ 40) n w T) k) + 1 from by rw [cB_t q]; exact nI_succ _] at t
          exact t
        | false =>
          rw [q] at hx
          subst hx
          refine br_t (show (0 : Int32) = 0 by decide) ?_
          have t := T92 V zv
          rw [cB_f (show ¬ ftP (σ 40) n w T k = true by rw [q]; decide)] at t
          exact t
    refine cl (ct_obegin hn8 (show σ 1 9 = nI n from e9) σ) ?_
    have hfa : nI (fa n) = nI N := by rw [fa_len n (by omega), hN]
    have L0 := L N 0 (by omega) (upr (up2 σ 28 1 (nI n)) 29 (mx nI (σ 29) n)) (OkC_upr (OkC_upr (OkC_rf z10) (by decide) _) (by decide) _) rfl (fun _ i hi => by
      rw [upr_in, od_0 h6 i hi]
      exact if_pos hi)
    rw [← hfa] at L0
    exact L0
theorem P_fit_2 {σ : Sg} (h : J σ) : PairG mX4_fit mX5_fit [.int (nI 2)] σ := by
  have f46 := J46 h
  obtain ⟨n, hh, v, h9⟩ := h.1
  have hn8 := v.1.1
  have z1 := h.2.1.1
  have z48 := h.2.2.2.1.1
  have z46 := J_z46 h
  obtain ⟨len, hl, e2, e3, e1, eb, en'⟩ := J_sh h 2 (by decide)
  have e1 : σ 39 1 = σ 52 2 := e1
  by_cases h0 : σ 52 2 = 0
  · refine Pair.G ?_
    refine Pair_fd h 5 ?_ ?_
    · refine Ct.of (by decide +kernel) zX4_fit (Nat.le_of_ble_eq_true rfl) (by decide) (fun X go => ?_)
      refine go.1 [] 100 _ _ _ _ ?_
      refine cl (ct_shF_no_2 (σ := σ) (e1.trans h0)) ?_
      refine br_f (by decide) ?_
      refine br_f (by decide) ?_
      exact And.intro rfl rfl
    · refine Ct.of (by decide +kernel) zX5_fit (Nat.le_of_ble_eq_true rfl) (by decide) (fun X go => ?_)
      refine go.1 [] 100 _ _ _ _ ?_
      refine cl (ct_wrong_no (s := 2) (σ := tel σ 5) (by decide) h0) ?_
      refine br_f (by decide) ?_
      refine br_f (by decide) ?_
      refine cl (ct_finds (w := 5) (by decide) fd5 _) ?_
      exact And.intro rfl rfl
  · have h1 : ¬ σ 39 1 = 0 := fun q => h0 (e1.symm.trans q)
    by_cases late : 999 < hh + 24
    · refine Pair.G ?_
      refine Pair_fd h 4 ?_ ?_
      · refine Ct.of (by decide +kernel) zX4_fit (Nat.le_of_ble_eq_true rfl) (by decide) (fun X go => ?_)
        refine go.1 [] 100 _ _ _ _ ?_
        refine cl (ct_shF_ok_2 (σ := σ) h1) ?_
        refine br_t (by decide) ?_
        refine cl (of_late h9 v.1.2.2.2 0 (by decide) (m := 24) (by decide) rfl (by omega) late) ?_
        refine br_f (by decide) ?_
        exact And.intro rfl rfl
      · refine Ct.of (by decide +kernel) zX5_fit (Nat.le_of_ble_eq_true rfl) (by decide) (fun X go => ?_)
        refine go.1 [] 100 _ _ _ _ ?_
        refine cl (ct_wrong_ok (s := 2) (σ := tel σ 4) (by decide) h0) ?_
        refine br_t (by decide) ?_
        refine cl (ow_late h9 (σ := tel σ 4) f46 v.1.2.2.2 (m := 24) rfl (by omega) late) ?_
        refine br_f (by decide) ?_
        refine cl (ct_finds (w := 4) (by decide) fd4 _) ?_
        exact And.intro rfl rfl
    · by_cases h6 : 6 < n
      · refine Pair.G ?_
        refine Pair_fd h 6 ?_ ?_
        · refine Ct.of (by decide +kernel) zX4_fit (Nat.le_of_ble_eq_true rfl) (by decide) (fun X go => ?_)
          refine go.1 [] 100 _ _ _ _ ?_
          refine cl (ct_shF_ok_2 (σ := σ) h1) ?_
          refine br_t (by decide) ?_
          refine cl (of_size h9 v.1.2.2.2 v.1.2.2.1 hn8 h6 0 (by decide) (m := 24) (by decide) rfl (by omega) late) ?_
          refine br_f (by decide) ?_
          exact And.intro rfl rfl
        · refine Ct.of (by decide +kernel) zX5_fit (Nat.le_of_ble_eq_true rfl) (by decide) (fun X go => ?_)
          refine go.1 [] 100 _ _ _ _ ?_
          refine cl (ct_wrong_ok (s := 2) (σ := tel σ 6) (by decide) h0) ?_
          refine br_t (by decide) ?_
          refine cl (ow_size h9 (σ := tel σ 6) f46 v.1.2.2.2 v.1.2.2.1 hn8 h6 (m := 24) rfl (by omega) late) ?_
          refine br_f (by decide) ?_
          refine cl (ct_finds (w := 6) (by decide) fd6 _) ?_
          exact And.intro rfl rfl
      · refine ⟨_, _, ctc_fit_2 h v h9 (by omega) late hl h1 e2, fun x σ1 ha => ⟨ha.1, ?_⟩⟩
        obtain ⟨-, o⟩ := ha
        have f1 : σ1 46 = flat (Tq 1 σ) := by rw [o.1 46 (by decide) (by decide)]; exact f46
        have z8 : Zr 78 (σ1 48) := by rw [o.1 48 (by decide) (by decide)]; exact z48
        exact ⟨_, ctm_fit (s := 2) (by decide) hl v h9 (by omega) late f1 z8 (by rw [o.1 52 (by decide) (by decide)]; exact h0) (by rw [o.1 53 (by decide) (by decide)]; exact e3) (g := σ 40) (fun i hi => by rw [o.1 54 (by decide) (by decide)]; exact (en' i hi).symm), fun x σ2 hb => ⟨hb.1, J_ord h o hb.2.1 hb.2.2⟩⟩

/-! the class, sheet 3 -/
theorem ctc_last_3 {n hh len : Nat} {σ : Sg} (v : VT n hh (Tq 1 σ)) (hl : len ≤ 40) (e2 : σ 41 2 = nI len) : Ct mX4_lastWordHour [.ref 0, .ref 41] σ (Ex (some (.int (if all1 (wkB (σ 42) n) (len / 3) = true then nI (lst (σ 42) (len / 3)) else -1))) σ) := by
  have hn8 := v.1.1
  generalize hww : len / 3 = w
  refine Ct.of (by decide +kernel) zX4_lastWordHour (Nat.le_of_ble_eq_true rfl) (by decide) (fun X go => ?_)
  refine go.1 [4] 100 _ _ _ _ ?_
  have L : ∀ d k, k + d = w → (∀ i, i < k → wkB (σ 42) n i = true) → X 4 [(0, .ref 0), (1, .ref 41), (2, .int (nI (lst (σ 42) k))), (3, .int (nI (3 * k)))] [] σ := by
    intro d
    induction d with
    | zero =>
      intro k hk hf
      have hk : k = w := by omega
      subst hk
      refine go.1 [4] 40 _ _ _ _ ?_
      refine br_t (show σ 41 2 < nI (3 * k) + nI 3 from by rw [e2, nI_add]; exact nI_lt (by omega) (by omega)) ?_
      exact And.intro (by rw [if_pos (all1_t hf)]) rfl
    | succ d ih =>
      intro k hk hf
      have bad : wkB (σ 42) n k = false → some (Value.int (-1)) = some (Value.int (if all1 (wkB (σ 42) n) w = true then nI (lst (σ 42) w) else -1)) := fun hb => by
        rw [if_neg (show ¬ all1 (wkB (σ 42) n) w = true from by rw [all1_f (show k < w by omega) hb]; decide)]
      refine go.1 [4] 90 _ _ _ _ ?_
      refine br_f (show ¬ σ 41 2 < nI (3 * k) + nI 3 from by rw [e2, nI_add]; exact nI_nlt (by omega) (by omega)) ?_
      refine Exists.intro (3 * k + 2) (And.intro ⟨nI_add (3 * k) 2, by omega, by omega⟩ ?_)
      refine Exists.intro (3 * k) (And.intro ⟨rfl, by omega, by omega⟩ ?_)
      cases c1 : bI (σ 42 (3 * k)) 0 ((n : Int) - 1) with
      | false =>
        refine cl (isS v c1) ?_
        refine br_t (by decide) ?_
        exact And.intro (bad (by unfold wkB; rw [c1]; rfl)) rfl
      | true =>
        refine cl (isS v c1) ?_
        refine br_f (by decide) ?_
        refine Exists.intro (3 * k + 1) (And.intro ⟨nI_add (3 * k) 1, by omega, by omega⟩ ?_)
        cases c2 : bI (σ 42 (3 * k + 1)) 0 11 with
        | false =>
          refine cl (isP c2 _) ?_
          refine br_t (by decide) ?_
          exact And.intro (bad (by unfold wkB; rw [c1, c2]; rfl)) rfl
        | true =>
          refine cl (isP c2 _) ?_
          refine br_f (by decide) ?_
          refine And.intro (fun (q : σ 42 (3 * k + 2) < 0) => ?_) (fun (q : ¬ σ 42 (3 * k + 2) < 0) => ?_)
          · rw [lt0] at q
            exact And.intro (bad (by unfold wkB; rw [c1, c2, bI_f.mpr (fun z => by omega)]; rfl)) rfl
          · rw [lt0] at q
            refine And.intro (fun (z : σ 42 (3 * k + 2) ≤ 24) => ?_) (fun (z : ¬ σ 42 (3 * k + 2) ≤ 24) => ?_)
            · rw [i_le, show (24 : Int32).toInt = 24 from rfl] at z
              have c3 : bI (σ 42 (3 * k + 2)) 0 24 = true := bI_t.mpr ⟨by omega, by omega⟩
              have hk1 : wkB (σ 42) n k = true := by unfold wkB; rw [c1, c2, c3]; rfl
              obtain ⟨y, hy0, hy, ey⟩ := bI_n c3 (by decide) (by decide)
              have ihk := ih (k + 1) (by omega) (fun i hi => by
                by_cases e : i = k
                · rw [e]; exact hk1
                · exact hf i (by omega))
              have hll := (lst_le hn8 k hf).1
              rw [i3 k, show nI (lst (σ 42) (k + 1)) = (if nI (lst (σ 42) k) < σ 42 (3 * k + 2) then σ 42 (3 * k + 2) else nI (lst (σ 42) k)) from by
                rw [lst, ey, nI_clamp (show y < 2 ^ 31 by omega)]
                by_cases e : lst (σ 42) k < y
                · rw [if_pos e, if_pos (nI_lt e (by omega))]
                · rw [if_neg e, if_neg (nI_nlt (by omega) (by omega))]] at ihk
              refine go.2 [0, 1, 2, 3] _ _ _ _ ?_
              exact ihk
            · rw [i_le, show (24 : Int32).toInt = 24 from rfl] at z
              exact And.intro (bad (by unfold wkB; rw [c1, c2, bI_f.mpr (fun z' => by omega)]; rfl)) rfl
  exact L w 0 (by omega) (fun i hi => absurd hi (by omega))
theorem ctc_so_3 {n hh h1 len last : Nat} {U τ : Sg} (v : VT n hh U) (v1 : VT n h1 (Tq 1 τ)) (zu : ZT U) (hl : len ≤ 40) (e2 : τ 41 2 = nI len) (hla : last ≤ 24) (hm : hh ≤ 1000) (hwk : ∀ i, i < len / 3 → wkB (τ 42) n i = true) {lv : Int32} (el : lv = nI last) : Ct mX4_wordsAreSo [.ref 0, .ref 41, .int lv] (putSq 10 U τ) (fun x σ' => x = some (.int (zb (all1 (fun h => all1 (soW (τ 42) (hrsT n U h) h) (len / 3)) (last + 1)))) ∧ ∃ U', ZT U' ∧ σ' = putSq 10 U' τ) := by
  subst el
  have hn8 := v.1.1
  generalize hww : len / 3 = w at hwk ⊢
  refine Ct.of (by decide +kernel) zX4_wordsAreSo (Nat.le_of_ble_eq_true rfl) (by decide) (fun X go => ?_)
  refine go.1 [2] 100 _ _ _ _ ?_
  have L : ∀ d h, h + d = last + 1 → (∀ i, i < h → all1 (soW (τ 42) (hrsT n U i) i) w = true) → X 2 [(0, .ref 0), (1, .ref 41), (2, .int (nI last)), (3, .int (nI h))] [] (putSq 10 (hrsT n U h) τ) := by
    intro d
    induction d with
    | zero =>
      intro h hh hf
      refine go.1 [2] 40 _ _ _ _ ?_
      refine br_t (nI_lt (by omega) (by omega)) ?_
      have hh : h = last + 1 := by omega
      subst hh
      refine And.intro (Or.inr rfl) (And.intro ?_ ⟨_, ZT_hrs hn8 zu _, rfl⟩)
      rw [all1_t (P := fun h => all1 (soW (τ 42) (hrsT n U h) h) w) hf]
      rfl
    | succ d ih =>
      intro h hhd hf
      have vh := VT_hrs v h (by omega)
      have v1' : ∀ V : Sg, VT n h1 (Tq 1 (putSq 10 V τ)) := fun V => VT_cong (fun j hj => (putSq_out (by omega)).symm) v1
      have LI : ∀ d k, k + d = w → (∀ i, i < k → soW (τ 42) (hrsT n U h) h i = true) → X 10 [(0, .ref 0), (1, .ref 41), (2, .int (nI last)), (3, .int (nI h)), (4, .int (nI (3 * k)))] [] (putSq 10 (hrsT n U h) τ) := by
        intro d
        induction d with
        | zero =>
          intro k hk hg
          have hk : k = w := by omega
          subst hk
          refine go.1 [2, 10] 60 _ _ _ _ ?_
          refine br_t (show τ 41 2 < nI (3 * k) + nI 3 from by rw [e2, nI_add]; exact nI_lt (by omega) (by omega)) ?_
          refine cl (ct_passHour_10 vh τ) ?_
          have ihk := ih (h + 1) (by omega) (fun i hi => by
            by_cases e : i = h
            · rw [e]; exact all1_t hg
            · exact hf i (by omega))
          rw [nI_succ h] at ihk
          refine go.2 [0, 1, 2, 3] _ _ _ _ ?_
          exact ihk
        | succ d ih2 =>
          intro k hk hg
          obtain ⟨⟨a, ha, ea⟩, ⟨c1, -⟩, -⟩ := wkB_t hn8 (hwk k (by omega))
          have hca : (τ 42 (3 * k)).toNatClampNeg = a := by rw [ea]; exact nI_clamp (by omega)
          have nxt : soW (τ 42) (hrsT n U h) h k = true → X 10 [(0, .ref 0), (1, .ref 41), (2, .int (nI last)), (3, .int (nI h)), (4, .int (nI (3 * k) + 3))] [] (putSq 10 (hrsT n U h) τ) := fun hs => by
            have ihk := ih2 (k + 1) (by omega) (fun i hi => by
              by_cases e : i = k
              · rw [e]; exact hs
              · exact hg i (by omega))
            rw [i3 k] at ihk
            exact ihk
          refine go.1 [10] 90 _ _ _ _ ?_
          refine br_f (show ¬ τ 41 2 < nI (3 * k) + nI 3 from by rw [e2, nI_add]; exact nI_nlt (by omega) (by omega)) ?_
          refine Exists.intro (3 * k) (And.intro ⟨rfl, by omega, by omega⟩ ?_)
          refine Exists.intro (3 * k + 2) (And.intro ⟨nI_add (3 * k) 2, by omega, by omega⟩ ?_)
          refine And.intro (fun (q : τ 42 (3 * k + 2) = nI h) => ?_) (fun (q : ¬ τ 42 (3 * k + 2) = nI h) => ?_)
          · refine cl (isS (v1' (hrsT n U h)) c1) ?_
            refine br_f (by decide) ?_
            refine Exists.intro (a) (And.intro ⟨ea, by omega, by omega⟩ ?_)
            refine Exists.intro (3 * k + 1) (And.intro ⟨nI_add (3 * k) 1, by omega, by omega⟩ ?_)
            refine And.intro (fun (z : hrsT n U h 4 a = τ 42 (3 * k + 1)) => ?_) (fun (z : ¬ hrsT n U h 4 a = τ 42 (3 * k + 1)) => ?_)
            · refine go.2 [0, 1, 2, 3, 4] _ _ _ _ ?_
              exact nxt (by unfold soW; rw [hca, decide_eq_true z, Bool.or_true])
            · refine And.intro (Or.inl rfl) (And.intro ?_ ⟨_, ZT_hrs hn8 zu _, rfl⟩)
              rw [all1_f (P := fun h => all1 (soW (τ 42) (hrsT n U h) h) w) (k := h) (by omega) (all1_f (k := k) (by omega) (by unfold soW; rw [hca, decide_eq_false z, decide_eq_true q]; rfl))]
              rfl
          · refine go.2 [0, 1, 2, 3, 4] _ _ _ _ ?_
            exact nxt (by unfold soW; rw [decide_eq_false q]; rfl)
      refine go.1 [2, 10] 60 _ _ _ _ ?_
      refine br_f (nI_nlt (by omega) (by omega)) ?_
      exact LI w 0 (by omega) (fun i hi => absurd hi (by omega))
  exact L (last + 1) 0 (by omega) (fun i hi => absurd hi (by omega))
theorem ctc_fit_3 {σ : Sg} (h : J σ) {n hh len : Nat} (v : VT n hh (Tq 1 σ)) (h9 : hh ≤ 999) (h6 : n ≤ 6) (late : ¬ 999 < hh + 24) (hl : len ≤ 40) (b1 : ¬ σ 41 1 = 0) (e2 : σ 41 2 = nI len) : Ct mX4_fit [.ref 0, .int (nI 3)] σ (fun x σ' => x = some (.int (if all1 (wkB (σ 42) n) (len / 3) = true then nI (cB (ftP (σ 42) n (len / 3) (Tq 1 σ)) (nOd n)) else 0)) ∧ OkC σ σ') := by
  have z1 := h.2.1.1
  have z10 := h.2.1.2.1
  have e10 := v.1.2.2.2
  have e9 := v.1.2.2.1
  have hn8 := v.1.1
  obtain ⟨n0, n7⟩ := nOd_pos h6
  have clast := ctc_last_3 v hl e2
  have vσ := v
  obtain ⟨T, hT⟩ : ∃ T : Sg, T = Tq 1 σ := ⟨_, rfl⟩
  rw [← hT] at v z1 ⊢
  generalize hN : nOd n = N at n0 n7 ⊢
  generalize hww : len / 3 = w at clast ⊢
  refine Ct.of (by decide +kernel) zX4_fit (Nat.le_of_ble_eq_true rfl) (by decide) (fun X go => ?_)
  refine go.1 [64] 100 _ _ _ _ ?_
  refine cl (ct_shF_ok_3 b1) ?_
  refine br_t (by decide) ?_
  refine cl (of_ok h9 e10 e9 h6 0 (by decide) (m := 24) (by decide) rfl (by omega) late) ?_
  refine br_t (by decide) ?_
  refine Exists.intro (3) (And.intro ⟨rfl, by decide, by omega⟩ ?_)
  cases hall : all1 (wkB (σ 42) n) w with
  | false =>
    rw [hall, if_neg (show ¬ false = true by decide)] at clast
    refine cl clast ?_
    refine br_f (by decide) ?_
    exact And.intro rfl (OkC_rf z10)
  | true =>
    have hwk := fun i hi => all1_at hall i hi
    have hla := (lst_le hn8 w hwk).1
    rw [hall, if_pos rfl] at clast
    refine cl clast ?_
    refine br_t (show 0 ≤ nI (lst (σ 42) w) from nI_pos' (by omega)) ?_
    have L : ∀ d k, k + d = N → ∀ τ : Sg, OkC σ τ → τ 28 1 = nI n → (0 < d → ∀ i, i < n → τ 29 i = nI (od n k i)) → X 64 [(0, .ref 0), (1, .int (nI 3)), (2, .int 0), (3, .int (nI (lst (σ 42) w))), (4, .int (nI (cB (ftP (σ 42) n w T) k))), (5, .int (nI N)), (6, .int (nI k))] [] τ := by
      intro d
      induction d with
      | zero =>
        intro k hk τ o e1 e2
        have hk : k = N := by omega
        subst hk
        refine go.1 [64] 40 _ _ _ _ ?_
        refine br_t (nI_le (Nat.le_refl _) (by omega)) ?_
        exact And.intro (by rw [hall]; rfl) o
      | succ d ih =>
        intro k hk τ o e1 e2'
        have hkN : k < nOd n := by omega
        have e2' := e2' (by omega)
        have ol := od_lt h6 hkN
        have vl := VT_lay v ol (od_inj h6 hkN)
        have c1 := ct_tryG (fun j hj => by rw [hT]; exact OkC_1 o j hj) v z1 o.2 ol e2'
        have eN : τ 42 = σ 42 := o.1 42 (by decide) (by decide)
        have eO : τ 41 = σ 41 := o.1 41 (by decide) (by decide)
        have c2 := ctc_so_3 (U := layT T n (od n k)) (τ := τ) (last := lst (σ 42) w) vl (VT_cong (fun j hj => (OkC_1 o j hj).symm) vσ) (ZT_lay z1 hn8 _) hl (by rw [eO]; exact e2) hla (by omega) (by rw [eN, hww]; exact hwk) rfl
        rw [eN, hww, so_last hn8 hwk (fun h => hrsT n (layT T n (od n k)) h)] at c2
        have T92 : ∀ (V : Sg), ZT V → X 92 [(0, .ref 0), (1, .int (nI 3)), (2, .int 0), (3, .int (nI (lst (σ 42) w))), (4, .int (nI (cB (ftP (σ 42) n w T) (k + 1)))), (5, .int (nI N)), (6, .int (nI k))] [] (putSq 10 V τ) := by
          intro V zv
          refine go.1 [64] 40 _ _ _ _ ?_
          refine clG (ct_advance (σ := putSq 10 V τ) hn8 e1 e2' (fun i hi => by have := ol i hi; omega)) (fun x τ3 hr => ?_)
          obtain ⟨rfl, g, rfl, hg⟩ := hr
          have ihk := ih (k + 1) (by omega) (upr (putSq 10 V τ) 29 g) (OkC_upr (OkC_put o zv) (by decide) g) e1 (fun hd i hi => by
            obtain ⟨g', q1, q2⟩ := od_next h6 (show k + 1 < nOd n by omega)
            rw [upr_in, hg i hi, getD_some q1, q2 i hi])
          rw [nI_succ k] at ihk
          exact ihk
        refine go.1 [64, 92] 80 _ _ _ _ ?_
        refine br_f (nI_ge (by omega) (by omega)) ?_
        refine cl c1 ?_
        refine Exists.intro (3) (And.intro ⟨rfl, by decide, by omega⟩ ?_)
        refine clG c2 (fun x τ2 hr => ?_)
        obtain ⟨hx, V, zv, rfl⟩ := hr
        have hx : x = some (.int (zb (ftP (σ 42) n w T k))) := hx
        cases q : ftP (σ 42) n w T k with
        | true =>
          rw [q] at hx
          subst hx
          refine br_f (show ¬ (1 : Int32) = 0 by decide) ?_
          have t := T92 V zv
          rw [show nI (cB (ftP (σ 42) n w T) (k + 1)) = nI (cB (ftP (σ 42) n w T) k) + 1 from by rw [cB_t q]; exact nI_succ _] at t
          exact t
        | false =>
          rw [q] at hx
          subst hx
          refine br_t (show (0 : Int32) = 0 by decide) ?_
          have t := T92 V zv
          rw [cB_f (show ¬ ftP (σ 42) n w T k = true by rw [q]; decide)] at t
          exact t
    refine cl (ct_obegin hn8 (show σ 1 9 = nI n from e9) σ) ?_
    have hfa : nI (fa n) = nI N := by rw [fa_len n (by omega), hN]
    have L0 := L N 0 (by omega) (upr (up2 σ 28 1 (nI n)) 29 (mx nI (σ 29) n)) (OkC_upr (OkC_upr (OkC_rf z10) (by decide) _) (by decide) _) rfl (fun _ i hi => by
      rw [upr_in, od_0 h6 i hi]
      exact if_pos hi)
    rw [← hfa] at L0
    exact L0
theorem P_fit_3 {σ : Sg} (h : J σ) : PairG mX4_fit mX5_fit [.int (nI 3)] σ := by
  have f46 := J46 h
  obtain ⟨n, hh, v, h9⟩ := h.1
  have hn8 := v.1.1
  have z1 := h.2.1.1
  have z48 := h.2.2.2.1.1
  have z46 := J_z46 h
  obtain ⟨len, hl, e2, e3, e1, eb, en'⟩ := J_sh h 3 (by decide)
  have e1 : σ 41 1 = σ 52 3 := e1
  by_cases h0 : σ 52 3 = 0
  · refine Pair.G ?_
    refine Pair_fd h 5 ?_ ?_
    · refine Ct.of (by decide +kernel) zX4_fit (Nat.le_of_ble_eq_true rfl) (by decide) (fun X go => ?_)
      refine go.1 [] 100 _ _ _ _ ?_
      refine cl (ct_shF_no_3 (σ := σ) (e1.trans h0)) ?_
      refine br_f (by decide) ?_
      refine br_f (by decide) ?_
      exact And.intro rfl rfl
    · refine Ct.of (by decide +kernel) zX5_fit (Nat.le_of_ble_eq_true rfl) (by decide) (fun X go => ?_)
      refine go.1 [] 100 _ _ _ _ ?_
      refine cl (ct_wrong_no (s := 3) (σ := tel σ 5) (by decide) h0) ?_
      refine br_f (by decide) ?_
      refine br_f (by decide) ?_
      refine cl (ct_finds (w := 5) (by decide) fd5 _) ?_
      exact And.intro rfl rfl
  · have h1 : ¬ σ 41 1 = 0 := fun q => h0 (e1.symm.trans q)
    by_cases late : 999 < hh + 24
    · refine Pair.G ?_
      refine Pair_fd h 4 ?_ ?_
      · refine Ct.of (by decide +kernel) zX4_fit (Nat.le_of_ble_eq_true rfl) (by decide) (fun X go => ?_)
        refine go.1 [] 100 _ _ _ _ ?_
        refine cl (ct_shF_ok_3 (σ := σ) h1) ?_
        refine br_t (by decide) ?_
        refine cl (of_late h9 v.1.2.2.2 0 (by decide) (m := 24) (by decide) rfl (by omega) late) ?_
        refine br_f (by decide) ?_
        exact And.intro rfl rfl
      · refine Ct.of (by decide +kernel) zX5_fit (Nat.le_of_ble_eq_true rfl) (by decide) (fun X go => ?_)
        refine go.1 [] 100 _ _ _ _ ?_
        refine cl (ct_wrong_ok (s := 3) (σ := tel σ 4) (by decide) h0) ?_
        refine br_t (by decide) ?_
        refine cl (ow_late h9 (σ := tel σ 4) f46 v.1.2.2.2 (m := 24) rfl (by omega) late) ?_
        refine br_f (by decide) ?_
        refine cl (ct_finds (w := 4) (by decide) fd4 _) ?_
        exact And.intro rfl rfl
    · by_cases h6 : 6 < n
      · refine Pair.G ?_
        refine Pair_fd h 6 ?_ ?_
        · refine Ct.of (by decide +kernel) zX4_fit (Nat.le_of_ble_eq_true rfl) (by decide) (fun X go => ?_)
          refine go.1 [] 100 _ _ _ _ ?_
          refine cl (ct_shF_ok_3 (σ := σ) h1) ?_
          refine br_t (by decide) ?_
          refine cl (of_size h9 v.1.2.2.2 v.1.2.2.1 hn8 h6 0 (by decide) (m := 24) (by decide) rfl (by omega) late) ?_
          refine br_f (by decide) ?_
          exact And.intro rfl rfl
        · refine Ct.of (by decide +kernel) zX5_fit (Nat.le_of_ble_eq_true rfl) (by decide) (fun X go => ?_)
          refine go.1 [] 100 _ _ _ _ ?_
          refine cl (ct_wrong_ok (s := 3) (σ := tel σ 6) (by decide) h0) ?_
          refine br_t (by decide) ?_
          refine cl (ow_size h9 (σ := tel σ 6) f46 v.1.2.2.2 v.1.2.2.1 hn8 h6 (m := 24) rfl (by omega) late) ?_
          refine br_f (by decide) ?_
          refine cl (ct_finds (w := 6) (by decide) fd6 _) ?_
          exact And.intro rfl rfl
      · refine ⟨_, _, ctc_fit_3 h v h9 (by omega) late hl h1 e2, fun x σ1 ha => ⟨ha.1, ?_⟩⟩
        obtain ⟨-, o⟩ := ha
        have f1 : σ1 46 = flat (Tq 1 σ) := by rw [o.1 46 (by decide) (by decide)]; exact f46
        have z8 : Zr 78 (σ1 48) := by rw [o.1 48 (by decide) (by decide)]; exact z48
        exact ⟨_, ctm_fit (s := 3) (by decide) hl v h9 (by omega) late f1 z8 (by rw [o.1 52 (by decide) (by decide)]; exact h0) (by rw [o.1 53 (by decide) (by decide)]; exact e3) (g := σ 42) (fun i hi => by rw [o.1 54 (by decide) (by decide)]; exact (en' i hi).symm), fun x σ2 hb => ⟨hb.1, J_ord h o hb.2.1 hb.2.2⟩⟩

theorem P_fit {σ : Sg} (h : J σ) (s : Int32) : PairG mX4_fit mX5_fit [.int s] σ := by
  cases hs : bI s 0 3 with
  | false =>
      refine Pair.G ?_
      refine Pair_fd h 0 ?_ ?_
      · refine Ct.of (by decide +kernel) zX4_fit (Nat.le_of_ble_eq_true rfl) (by decide) (fun X go => ?_)
        refine go.1 [] 100 _ _ _ _ ?_
        refine cl (ct_shF_bad hs σ) ?_
        refine br_f (by decide) ?_
        refine br_f (by decide) ?_
        exact And.intro rfl rfl
      · refine Ct.of (by decide +kernel) zX5_fit (Nat.le_of_ble_eq_true rfl) (by decide) (fun X go => ?_)
        refine go.1 [] 100 _ _ _ _ ?_
        refine cl (ct_wrong_bad hs (tel σ 0)) ?_
        refine br_f (by decide) ?_
        refine br_f (by decide) ?_
        refine cl (ct_finds (w := 0) (by decide) fd0 _) ?_
        exact And.intro rfl rfl
  | true =>
    obtain ⟨t, -, ht, rfl⟩ := bI_n hs (by decide) (by decide)
    have ht : t = 0 ∨ t = 1 ∨ t = 2 ∨ t = 3 := by omega
    rcases ht with rfl | rfl | rfl | rfl
    · exact P_fit_0 h
    · exact P_fit_1 h
    · exact P_fit_2 h
    · exact P_fit_3 h
