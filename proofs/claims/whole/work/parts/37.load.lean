/-! load, judge -/
theorem min12 {len : Nat} (hl : len ≤ 40) : (if (12 : Int32) < nI len then (12 : Int32) else nI len) = nI (min len 12) := by
  by_cases h : 12 < len
  · rw [if_pos (show (12 : Int32) < nI len from nI_lt (a := 12) h (by omega)), Nat.min_eq_right (by omega)]
    rfl
  · rw [if_neg (show ¬ (12 : Int32) < nI len from nI_nlt (a := 12) (b := len) (by omega) (by omega)), Nat.min_eq_left (by omega)]
theorem firstN_true {P : Nat → Bool} : ∀ d j i, j ≤ i → i < firstN P d j → P i = false
  | 0, j, i, h1, h2 => absurd h2 (by unfold firstN; omega)
  | d + 1, j, i, h1, h2 => by
    unfold firstN at h2
    split at h2
    · omega
    · rename_i hq
      by_cases e : i = j
      · subst e
        cases hp : P i with
        | true => exact absurd hp hq
        | false => rfl
      · exact firstN_true d (j + 1) i (by omega) h2
theorem VT_vis {n h b : Nat} {T : Sg} (v : VTb n h b T) {f : Nat → Int32} (hf : ∀ p, p < 12 → ∃ x, x ≤ 20 ∧ f p = nI x) : VTb n h b (upr T 1 f) := ⟨v.1, v.2.1, v.2.2.1, v.2.2.2.1, v.2.2.2.2.1, hf, v.2.2.2.2.2.2⟩
theorem flat_mx {T : Sg} {g : Nat → Int32} : ∀ r, r ≤ 12 → (fun j => if 4 ≤ j ∧ j < 4 + r then g (j - 4) else flat T j) = flat (upr T 1 (mx g (T 1) r)) := by
  intro r hr
  funext j
  by_cases h4 : 4 ≤ j
  · rw [flat_ge h4, flat_ge h4, upr_in]
    by_cases a1 : j < 16
    · rw [if_pos a1, if_pos a1]
      unfold mx
      by_cases a2 : j - 4 < r
      · rw [if_pos a2, if_pos (by omega)]
      · rw [if_neg a2, if_neg (by omega)]
    · rw [if_neg (by omega), if_neg a1, if_neg a1, upr_out (show 2 ≠ 1 by decide), upr_out (show 3 + (j - 28) % 5 ≠ 1 by omega), upr_out (show 8 ≠ 1 by decide)]
  · rw [if_neg (by omega)]
    have : j = 0 ∨ j = 1 ∨ j = 2 ∨ j = 3 := by omega
    rcases this with rfl | rfl | rfl | rfl <;> rfl
/-- what load comes to -/
def ldP (g : Nat → Int32) (k : Nat) : Bool := !bI (g k) 0 20
def mx4 (g f : Nat → Int32) (r : Nat) : Nat → Int32 := fun j => if 4 ≤ j ∧ j < 4 + r then g (j - 4) else f j
theorem mx4_0 (g f : Nat → Int32) : mx4 g f 0 = f := by
  funext j
  unfold mx4
  rw [if_neg (by omega)]
theorem mx4_s (g f : Nat → Int32) (r : Nat) : upd (mx4 g f r) (4 + r) (g r) = mx4 g f (r + 1) := by
  funext j
  unfold upd mx4
  by_cases h : j = 4 + r
  · rw [if_pos h, if_pos (by omega), h, Nat.add_sub_cancel_left]
  · rw [if_neg h]
    by_cases q : 4 ≤ j ∧ j < 4 + r
    · rw [if_pos q, if_pos (by omega)]
    · rw [if_neg q, if_neg (by omega)]
theorem ctm_load {s len : Nat} (hs : s < 4) (hl : len ≤ 40) {σ : Sg} (b1 : ¬ σ 52 s = 0) (e3 : σ 53 s = nI len) {g : Nat → Int32} (eg : ∀ i, i < 40 → σ 54 (40 * s + i) = g i) : Ct mX5_load [.ref 45, .int (nI s)] σ (Ex (some (.int (nI (firstN (ldP g) (min len 12) 0)))) (upr σ 46 (mx4 g (σ 46) (firstN (ldP g) (min len 12) 0)))) := by
  generalize hr : firstN (ldP g) (min len 12) 0 = r
  refine Ct.of (by decide +kernel) zX5_load (Nat.le_of_ble_eq_true rfl) (by decide) (fun X go => ?_)
  refine go.1 [18] 100 _ _ _ _ ?_
  have L : ∀ d k, k + d = min len 12 → firstN (ldP g) d k = r → X 18 [(0, .ref 45), (1, .int (nI s)), (2, .int 0), (3, .int (nI k))] [] (upr σ 46 (mx4 g (σ 46) k)) := by
    intro d
    induction d with
    | zero =>
      intro k hk hf
      have hf : r = k := hf.symm
      subst hf
      refine go.1 [81] 40 _ _ _ _ ?_
      refine Exists.intro (s) (And.intro ⟨rfl, by omega, by omega⟩ ?_)
      have E : X 81 [(0, .ref 45), (1, .int (nI s)), (2, .int 0), (3, .int (nI r))] [] (upr σ 46 (mx4 g (σ 46) r)) := by
        refine go.1 [] 40 _ _ _ _ ?_
        exact And.intro rfl rfl
      refine And.intro (fun _ => E) (fun (q : ¬ σ 53 s ≤ nI r) => ?_)
      rw [e3, nI_leI (by omega) (by omega)] at q
      refine br_t (show nI 12 ≤ nI r from nI_le (by omega) (by omega)) ?_
      exact E
    | succ d ih =>
      intro k hk hf
      refine go.1 [18] 60 _ _ _ _ ?_
      refine Exists.intro (s) (And.intro ⟨rfl, by omega, by omega⟩ ?_)
      refine br_f (show ¬ σ 53 s ≤ nI k by rw [e3]; exact nI_ge (by omega) (by omega)) ?_
      refine br_f (show ¬ nI 12 ≤ nI k from nI_ge (by omega) (by omega)) ?_
      refine Exists.intro (40 * s + k) (And.intro ⟨ix40 s k, by omega, by omega⟩ ?_)
      rw [show upr σ 46 (mx4 g (σ 46) k) 54 (40 * s + k) = g k from eg k (by omega)]
      cases hq : bI (g k) 0 20 with
      | true =>
        have ihk := ih (k + 1) (by omega) (by rw [← hf]; exact (if_neg (by unfold ldP; rw [hq]; decide)).symm)
        have es : up2 (upr σ 46 (mx4 g (σ 46) k)) 46 (4 + k) (g k) = upr σ 46 (mx4 g (σ 46) (k + 1)) := by
          show upr (upr σ 46 (mx4 g (σ 46) k)) 46 (upd (upr σ 46 (mx4 g (σ 46) k) 46) (4 + k) _) = _
          rw [upr_in, upr_upr, mx4_s]
        rw [nI_succ k, ← es] at ihk
        refine cl (inM 0 20 hq _) ?_
        refine br_f (by decide) ?_
        refine Exists.intro (40 * s + k) (And.intro ⟨ix40 s k, by omega, by omega⟩ ?_)
        rw [show upr σ 46 (mx4 g (σ 46) k) 54 (40 * s + k) = g k from eg k (by omega)]
        refine Exists.intro (4 + k) (And.intro ⟨nI_add 4 k, by omega, by omega⟩ ?_)
        exact ihk
      | false =>
        have hf : r = k := by rw [← hf]; exact if_pos (by unfold ldP; rw [hq]; rfl)
        subst hf
        refine cl (inM 0 20 hq _) ?_
        refine br_t (by decide) ?_
        exact And.intro rfl rfl
  have L0 := L (min len 12) 0 (by omega) hr
  rw [mx4_0, upr_self] at L0
  refine cl (ct_wrong_ok hs b1) ?_
  refine br_t (by decide) ?_
  exact L0
/-- what judge comes to -/
def jdP (g : Nat → Int32) (U : Sg) (n : Nat) (k : Nat) : Bool := !decide (g k = atN U (nI k) n)
def jdA (r len : Nat) : Int32 := if r = 12 ∧ len = 12 then 0 else 1 + nI r
theorem ctm_judge {s len n hh m : Nat} (hs : s < 4) (hl : len ≤ 40) {σ T : Sg} (v : VT n hh T) (h9 : hh ≤ 999) (f46 : σ 46 = flat T) (z48 : Zr 78 (σ 48)) (b1 : ¬ σ 52 s = 0) (e3 : σ 53 s = nI len) {g : Nat → Int32} (eg : ∀ i, i < 40 → σ 54 (40 * s + i) = g i) {nv : Int32} (hn : bI nv 0 96 = true) (en : nv = nI m) (hm2 : m ≤ 96) (late : ¬ 999 < hh + m) : Ct mX5_judge [.ref 45, .int (nI s), .int nv] σ (Ex (some (.int (jdA (firstN (jdP g (hrsT n T m) n) (min len 12) 0) len))) (sv σ)) := by
  have hn8 := v.1.1
  have z46 : Zr 78 (σ 46) := by rw [f46]; exact flat_z T
  have fs : sv σ 46 = flat T := f46
  have c2 := ct_hoursGo v (show hh + m ≤ 2000 by omega) en (sv σ)
  rw [MSe fs] at c2
  have vU := VT_hrs v m (by omega)
  generalize hU : hrsT n T m = U at *
  generalize hr : firstN (jdP g U n) (min len 12) 0 = r
  have hr12 : r ≤ 12 := by
    have := firstN_le (jdP g U n) (min len 12) 0
    omega
  refine Ct.of (by decide +kernel) zX5_judge (Nat.le_of_ble_eq_true rfl) (by decide) (fun X go => ?_)
  refine go.1 [61] 100 _ _ _ _ ?_
  have E : X 106 [(0, .ref 45), (1, .int (nI s)), (2, .int nv), (3, .int 0), (5, .int (nI r))] [] (MS (sv σ) U) := by
    refine go.1 [] 40 _ _ _ _ ?_
    refine cl (ct_bk z46 _) ?_
    unfold jdA
    by_cases q : r = 12
    · subst q
      refine br_t (by decide) ?_
      refine Exists.intro (s) (And.intro ⟨rfl, by omega, by omega⟩ ?_)
      by_cases w : len = 12
      · refine br_t (show sv σ 53 s = nI 12 from e3.trans (by rw [w])) ?_
        rw [if_pos ⟨rfl, w⟩]
        exact And.intro rfl rfl
      · refine br_f (fun z : sv σ 53 s = nI 12 => w ((nI_eq (by omega) (by omega)).mp (e3.symm.trans z))) ?_
        rw [if_neg (fun z => w z.2)]
        exact And.intro rfl rfl
    · refine br_f (show ¬ nI r = nI 12 from fun z => q ((nI_eq (by omega) (by omega)).mp z)) ?_
      rw [if_neg (fun z => q z.1)]
      exact And.intro rfl rfl
  have L : ∀ d k, k + d = min len 12 → firstN (jdP g U n) d k = r → X 61 [(0, .ref 45), (1, .int (nI s)), (2, .int nv), (3, .int 0), (5, .int (nI k))] [] (MS (sv σ) U) := by
    intro d
    induction d with
    | zero =>
      intro k hk hf
      have hf : r = k := hf.symm
      subst hf
      refine go.1 [106] 40 _ _ _ _ ?_
      refine Exists.intro (s) (And.intro ⟨rfl, by omega, by omega⟩ ?_)
      refine And.intro (fun _ => E) (fun (q : ¬ σ 53 s ≤ nI r) => ?_)
      rw [e3, nI_leI (by omega) (by omega)] at q
      refine br_t (show nI 12 ≤ nI r from nI_le (by omega) (by omega)) ?_
      exact E
    | succ d ih =>
      intro k hk hf
      have cs := ct_stallAtM vU (nI k) (sv σ)
      refine go.1 [61, 106] 60 _ _ _ _ ?_
      refine Exists.intro (s) (And.intro ⟨rfl, by omega, by omega⟩ ?_)
      refine br_f (show ¬ σ 53 s ≤ nI k by rw [e3]; exact nI_ge (by omega) (by omega)) ?_
      refine br_f (show ¬ nI 12 ≤ nI k from nI_ge (by omega) (by omega)) ?_
      refine Exists.intro (40 * s + k) (And.intro ⟨ix40 s k, by omega, by omega⟩ ?_)
      rw [show MS (sv σ) U 54 (40 * s + k) = g k from eg k (by omega)]
      refine cl cs ?_
      refine And.intro (fun (q : g k = atN U (nI k) n) => ?_) (fun (q : ¬ g k = atN U (nI k) n) => ?_)
      · have ihk := ih (k + 1) (by omega) (by rw [← hf]; exact (if_neg (by unfold jdP; rw [decide_eq_true q]; decide)).symm)
        rw [nI_succ k] at ihk
        exact ihk
      · have hf : r = k := by rw [← hf]; exact if_pos (by unfold jdP; rw [decide_eq_false q]; rfl)
        rw [hf] at E
        exact E
  refine cl (ct_wrong_ok hs b1) ?_
  refine br_t (by decide) ?_
  refine cl (isSpM hn _) ?_
  refine br_f (by decide) ?_
  refine cl (tl h9 f46 v.1.2.2.2 en (by omega) (decide_eq_false late)) ?_
  refine br_t (by decide) ?_
  refine br_t (by decide) ?_
  refine cl (ct_sv z46 z48) ?_
  refine cl c2 ?_
  have L0 := L (min len 12) 0 (by omega) hr
  refine go.2 [0, 1, 2, 3, 5] _ _ _ _ ?_
  exact L0

theorem ctc_load_0 {len : Nat} (hl : len ≤ 40) {σ : Sg} (b1 : ¬ σ 35 1 = 0) (e2 : σ 35 2 = nI len) : Ct mX4_load [.ref 0, .int (nI 0)] σ (Ex (some (.int (nI (firstN (ldP (σ 36)) (min len 12) 0)))) (upr σ 2 (mx (σ 36) (σ 2) (firstN (ldP (σ 36)) (min len 12) 0)))) := by
  generalize hr : firstN (ldP (σ 36)) (min len 12) 0 = r
  refine Ct.of (by decide +kernel) zX4_load (Nat.le_of_ble_eq_true rfl) (by decide) (fun X go => ?_)
  refine go.1 [30] 100 _ _ _ _ ?_
  have L : ∀ d k, k + d = min len 12 → firstN (ldP (σ 36)) d k = r → X 30 [(0, .ref 0), (1, .int (nI 0)), (2, .int 0), (3, .int (nI (min len 12))), (4, .int (nI k))] [] (upr σ 2 (mx (σ 36) (σ 2) k)) := by
    intro d
    induction d with
    | zero =>
      intro k hk hf
      have hf : r = k := hf.symm
      subst hf
      refine go.1 [30] 40 _ _ _ _ ?_
      refine br_t (nI_le (by omega) (by omega)) ?_
      exact And.intro rfl rfl
    | succ d ih =>
      intro k hk hf
      refine go.1 [30] 60 _ _ _ _ ?_
      refine br_f (nI_ge (by omega) (by omega)) ?_
      refine Exists.intro (0) (And.intro ⟨rfl, by decide, by omega⟩ ?_)
      refine Exists.intro (k) (And.intro ⟨rfl, by omega, by omega⟩ ?_)
      have out : bI (σ 36 k) 0 20 = false → r = k := fun hq => by rw [← hf]; exact if_pos (by unfold ldP; rw [hq]; rfl)
      refine And.intro (fun (q : σ 36 k < 0) => ?_) (fun (q : ¬ σ 36 k < 0) => ?_)
      · rw [lt0] at q
        have hf := out (bI_f.mpr (fun z => by omega))
        subst hf
        exact And.intro rfl rfl
      · rw [lt0] at q
        refine Exists.intro (0) (And.intro ⟨rfl, by decide, by omega⟩ ?_)
        refine Exists.intro (k) (And.intro ⟨rfl, by omega, by omega⟩ ?_)
        refine And.intro (fun (w : (20 : Int32) < σ 36 k) => ?_) (fun (w : ¬ (20 : Int32) < σ 36 k) => ?_)
        · rw [i_lt, show (20 : Int32).toInt = 20 from rfl] at w
          have hf := out (bI_f.mpr (fun z => by omega))
          subst hf
          exact And.intro rfl rfl
        · rw [i_lt, show (20 : Int32).toInt = 20 from rfl] at w
          have hq : bI (σ 36 k) 0 20 = true := bI_t.mpr ⟨by omega, by omega⟩
          have ihk := ih (k + 1) (by omega) (by rw [← hf]; exact (if_neg (by unfold ldP; rw [hq]; decide)).symm)
          have es : up2 (upr σ 2 (mx (σ 36) (σ 2) k)) 2 k (σ 36 k) = upr σ 2 (mx (σ 36) (σ 2) (k + 1)) := by
            show upr (upr σ 2 (mx (σ 36) (σ 2) k)) 2 (upd (upr σ 2 (mx (σ 36) (σ 2) k) 2) k _) = _
            rw [upr_in, upr_upr, mx_upd]
          rw [nI_succ k, ← es] at ihk
          refine Exists.intro (0) (And.intro ⟨rfl, by decide, by omega⟩ ?_)
          refine Exists.intro (k) (And.intro ⟨rfl, by omega, by omega⟩ ?_)
          refine Exists.intro (k) (And.intro ⟨rfl, by omega, by omega⟩ ?_)
          exact ihk
  have L0 := L (min len 12) 0 (by omega) hr
  rw [mx_0, upr_self, ← min12 hl, ← e2] at L0
  refine cl (ct_shF_ok_0 b1) ?_
  refine br_t (by decide) ?_
  refine Exists.intro (0) (And.intro ⟨rfl, by decide, by omega⟩ ?_)
  exact L0
theorem P_load_0 {σ : Sg} (h : J σ) : Pair mX4_load mX5_load [.int (nI 0)] σ := by
  have f46 := J46 h
  obtain ⟨n, hh, v, h9⟩ := h.1
  have hn8 := v.1.1
  have z1 := h.2.1.1
  have z10 := h.2.1.2.1
  have z46 := J_z46 h
  have z48 := h.2.2.2.1.1
  obtain ⟨len, hl, e2, e3, e1, eb, en⟩ := J_sh h 0 (by decide)
  have e1 : σ 35 1 = σ 52 0 := e1
  by_cases h0 : σ 52 0 = 0
  · refine Pair_fd h 5 ?_ ?_
    · refine Ct.of (by decide +kernel) zX4_load (Nat.le_of_ble_eq_true rfl) (by decide) (fun X go => ?_)
      refine go.1 [] 100 _ _ _ _ ?_
      refine cl (ct_shF_no_0 (σ := σ) (e1.trans h0)) ?_
      refine br_f (by decide) ?_
      exact And.intro rfl rfl
    · refine Ct.of (by decide +kernel) zX5_load (Nat.le_of_ble_eq_true rfl) (by decide) (fun X go => ?_)
      refine go.1 [] 100 _ _ _ _ ?_
      refine cl (ct_wrong_no (s := 0) (σ := tel σ 5) (by decide) h0) ?_
      refine br_f (by decide) ?_
      refine cl (ct_finds (w := 5) (by decide) fd5 _) ?_
      exact And.intro rfl rfl
  · generalize hr : firstN (ldP (σ 36)) (min len 12) 0 = r
    have hr12 : r ≤ 12 := by
      have := firstN_le (ldP (σ 36)) (min len 12) 0
      omega
    have c1 := ctc_load_0 hl (fun q => h0 (e1.symm.trans q)) e2
    have c2 := ctm_load (s := 0) (by decide) hl (σ := upr σ 2 (mx (σ 36) (σ 2) r)) h0 e3 (g := σ 36) (fun i hi => (en i hi).symm)
    rw [hr] at c1 c2
    refine ⟨nI r, _, _, c1, c2, ?_⟩
    refine J_row h (r := 1) (by decide) (f := mx (σ 36) (σ 2) r) ⟨n, hh, VT_vis v (fun p hp => ?_), h9⟩ ⟨z1.1, ⟨fun j hj => ?_, z1.2.1.2⟩, z1.2.2⟩ ?_
    · unfold mx
      by_cases q : p < r
      · rw [if_pos q]
        have hb : ldP (σ 36) p = false := firstN_true (min len 12) 0 p (Nat.zero_le _) (by rw [hr]; exact q)
        have hb : bI (σ 36 p) 0 20 = true := by
          unfold ldP at hb
          cases hz : bI (σ 36 p) 0 20 with
          | true => rfl
          | false => rw [hz] at hb; exact absurd hb (by decide)
        obtain ⟨x, -, hx, ex⟩ := bI_n hb (by decide) (by decide)
        exact ⟨x, by omega, ex⟩
      · rw [if_neg q]
        exact v.2.2.2.2.2.1 p hp
    · show mx (σ 36) (σ 2) r j = 0
      unfold mx
      rw [if_neg (by omega)]
      exact z1.2.1.1 j hj
    · show mx4 (σ 36) (σ 46) r = _
      rw [f46]
      exact flat_mx (T := Tq 1 σ) (g := σ 36) r hr12
theorem ctc_judge_0 {len n hh m : Nat} (hl : len ≤ 40) {σ : Sg} (v : VT n hh (Tq 1 σ)) (h9 : hh ≤ 999) (z1 : ZT (Tq 1 σ)) (z10 : ZT (Tq 10 σ)) (b1 : ¬ σ 35 1 = 0) (e2 : σ 35 2 = nI len) {nv : Int32} (hn : bI nv 0 96 = true) (en : nv = nI m) (hm2 : m ≤ 96) (late : ¬ 999 < hh + m) : Ct mX4_judge [.ref 0, .int (nI 0), .int nv] σ (Ex (some (.int (jdA (firstN (jdP (σ 36) (hrsT n (Tq 1 σ) m) n) (min len 12) 0) len))) (putSq 10 (hrsT n (Tq 1 σ) m) σ)) := by
  have vU := VT_hrs v m (by omega)
  have c1 := ct_passHours_10 v (show hh + m ≤ 2000 by omega) en σ
  generalize hU : hrsT n (Tq 1 σ) m = U at *
  generalize hr : firstN (jdP (σ 36) U n) (min len 12) 0 = r
  have hr12 : r ≤ 12 := by
    have := firstN_le (jdP (σ 36) U n) (min len 12) 0
    omega
  refine Ct.of (by decide +kernel) zX4_judge (Nat.le_of_ble_eq_true rfl) (by decide) (fun X go => ?_)
  refine go.1 [65] 100 _ _ _ _ ?_
  have E : X 102 [(0, .ref 0), (1, .int (nI 0)), (2, .int nv), (3, .int 0), (4, .int (nI (min len 12))), (5, .int (nI r))] [] (putSq 10 U σ) := by
    refine go.1 [] 40 _ _ _ _ ?_
    unfold jdA
    by_cases q : r = 12
    · subst q
      refine br_t (by decide) ?_
      refine Exists.intro (0) (And.intro ⟨rfl, by decide, by omega⟩ ?_)
      by_cases w : len = 12
      · refine br_t (show σ 35 2 = nI 12 from e2.trans (by rw [w])) ?_
        rw [if_pos ⟨rfl, w⟩]
        exact And.intro rfl rfl
      · refine br_f (fun z : σ 35 2 = nI 12 => w ((nI_eq (by omega) (by omega)).mp (e2.symm.trans z))) ?_
        rw [if_neg (fun z => w z.2)]
        exact And.intro rfl rfl
    · refine br_f (show ¬ nI r = nI 12 from fun z => q ((nI_eq (by omega) (by omega)).mp z)) ?_
      rw [if_neg (fun z => q z.1)]
      exact And.intro rfl rfl
  have L : ∀ d k, k + d = min len 12 → firstN (jdP (σ 36) U n) d k = r → X 65 [(0, .ref 0), (1, .int (nI 0)), (2, .int nv), (3, .int 0), (4, .int (nI (min len 12))), (5, .int (nI k))] [] (putSq 10 U σ) := by
    intro d
    induction d with
    | zero =>
      intro k hk hf
      have hf : r = k := hf.symm
      subst hf
      refine go.1 [102] 40 _ _ _ _ ?_
      refine br_t (nI_le (by omega) (by omega)) ?_
      exact E
    | succ d ih =>
      intro k hk hf
      have cs := ct_stallAt_10 (σ := putSq 10 U σ) (VT_tr vU) (nI k)
      rw [show atN (Tq 10 (putSq 10 U σ)) (nI k) n = atN U (nI k) n from atN_cong (T := Tq 10 (putSq 10 U σ)) (U := U) rfl _ n] at cs
      refine go.1 [65, 102] 60 _ _ _ _ ?_
      refine br_f (nI_ge (by omega) (by omega)) ?_
      refine Exists.intro (0) (And.intro ⟨rfl, by decide, by omega⟩ ?_)
      refine Exists.intro (k) (And.intro ⟨rfl, by omega, by omega⟩ ?_)
      refine cl cs ?_
      refine And.intro (fun (q : σ 36 k = atN U (nI k) n) => ?_) (fun (q : ¬ σ 36 k = atN U (nI k) n) => ?_)
      · have ihk := ih (k + 1) (by omega) (by rw [← hf]; exact (if_neg (by unfold jdP; rw [decide_eq_true q]; decide)).symm)
        rw [nI_succ k] at ihk
        exact ihk
      · have hf : r = k := by rw [← hf]; exact if_pos (by unfold jdP; rw [decide_eq_false q]; rfl)
        rw [hf] at E
        exact E
  refine cl (ct_shF_ok_0 b1) ?_
  refine br_t (by decide) ?_
  refine cl (ah_ok h9 v.1.2.2.2 0 96 (by decide) hn en (by omega) late) ?_
  refine br_t (by decide) ?_
  refine cl (ct_become_10_1 z10 z1) ?_
  refine cl c1 ?_
  refine Exists.intro (0) (And.intro ⟨rfl, by decide, by omega⟩ ?_)
  have L0 := L (min len 12) 0 (by omega) hr
  rw [← min12 hl, ← e2] at L0
  exact L0
theorem P_judge_0 {σ : Sg} (h : J σ) (nv : Int32) : Pair mX4_judge mX5_judge [.int (nI 0), .int nv] σ := by
  have f46 := J46 h
  obtain ⟨n, hh, v, h9⟩ := h.1
  have hn8 := v.1.1
  have z1 := h.2.1.1
  have z10 := h.2.1.2.1
  have z46 := J_z46 h
  have z48 := h.2.2.2.1.1
  obtain ⟨len, hl, e2, e3, e1, eb, en'⟩ := J_sh h 0 (by decide)
  have e1 : σ 35 1 = σ 52 0 := e1
  by_cases h0 : σ 52 0 = 0
  · refine Pair_fd h 5 ?_ ?_
    · refine Ct.of (by decide +kernel) zX4_judge (Nat.le_of_ble_eq_true rfl) (by decide) (fun X go => ?_)
      refine go.1 [] 100 _ _ _ _ ?_
      refine cl (ct_shF_no_0 (σ := σ) (e1.trans h0)) ?_
      refine br_f (by decide) ?_
      refine br_f (by decide) ?_
      exact And.intro rfl rfl
    · refine Ct.of (by decide +kernel) zX5_judge (Nat.le_of_ble_eq_true rfl) (by decide) (fun X go => ?_)
      refine go.1 [] 100 _ _ _ _ ?_
      refine cl (ct_wrong_no (s := 0) (σ := tel σ 5) (by decide) h0) ?_
      refine br_f (by decide) ?_
      refine br_f (by decide) ?_
      refine cl (ct_finds (w := 5) (by decide) fd5 _) ?_
      exact And.intro rfl rfl
  · have h1 : ¬ σ 35 1 = 0 := fun q => h0 (e1.symm.trans q)
    cases hn : bI nv 0 96 with
    | false =>
      refine Pair_fd h 0 ?_ ?_
      · refine Ct.of (by decide +kernel) zX4_judge (Nat.le_of_ble_eq_true rfl) (by decide) (fun X go => ?_)
        refine go.1 [] 100 _ _ _ _ ?_
        refine cl (ct_shF_ok_0 (σ := σ) h1) ?_
        refine br_t (by decide) ?_
        refine cl (ah_bad h9 v.1.2.2.2 0 96 (by decide) true hn) ?_
        refine br_f (by decide) ?_
        exact And.intro rfl rfl
      · refine Ct.of (by decide +kernel) zX5_judge (Nat.le_of_ble_eq_true rfl) (by decide) (fun X go => ?_)
        refine go.1 [] 100 _ _ _ _ ?_
        refine cl (ct_wrong_ok (s := 0) (σ := tel σ 0) (by decide) h0) ?_
        refine br_t (by decide) ?_
        refine cl (isSpM hn _) ?_
        refine br_t (by decide) ?_
        refine br_f (by decide) ?_
        refine cl (ct_finds (w := 0) (by decide) fd0 _) ?_
        exact And.intro rfl rfl
    | true =>
      obtain ⟨m, hm1, hm2, en⟩ := bI_n hn (by decide) (by decide)
      by_cases late : 999 < hh + m
      · refine Pair_fd h 4 ?_ ?_
        · refine Ct.of (by decide +kernel) zX4_judge (Nat.le_of_ble_eq_true rfl) (by decide) (fun X go => ?_)
          refine go.1 [] 100 _ _ _ _ ?_
          refine cl (ct_shF_ok_0 (σ := σ) h1) ?_
          refine br_t (by decide) ?_
          refine cl (ah_late h9 v.1.2.2.2 0 96 (by decide) hn en (by omega) late) ?_
          refine br_f (by decide) ?_
          exact And.intro rfl rfl
        · refine Ct.of (by decide +kernel) zX5_judge (Nat.le_of_ble_eq_true rfl) (by decide) (fun X go => ?_)
          refine go.1 [] 100 _ _ _ _ ?_
          refine cl (ct_wrong_ok (s := 0) (σ := tel σ 4) (by decide) h0) ?_
          refine br_t (by decide) ?_
          refine cl (isSpM hn _) ?_
          refine br_f (by decide) ?_
          refine cl (tl h9 (σ := tel σ 4) f46 v.1.2.2.2 en (by omega) (decide_eq_true late)) ?_
          refine br_f (by decide) ?_
          refine br_f (by decide) ?_
          refine cl (ct_finds (w := 4) (by decide) fd4 _) ?_
          exact And.intro rfl rfl
      · have c1 := ctc_judge_0 hl v h9 z1 z10 h1 e2 hn en (by omega) late
        have c2 := ctm_judge (s := 0) (by decide) hl (σ := putSq 10 (hrsT n (Tq 1 σ) m) σ) v h9 f46 z48 h0 e3 (g := σ 36) (fun i hi => (en' i hi).symm) hn en (by omega) late
        exact ⟨_, _, _, c1, c2, J_tr h (ZT_hrs hn8 z1 m)⟩

theorem ctc_load_1 {len : Nat} (hl : len ≤ 40) {σ : Sg} (b1 : ¬ σ 37 1 = 0) (e2 : σ 37 2 = nI len) : Ct mX4_load [.ref 0, .int (nI 1)] σ (Ex (some (.int (nI (firstN (ldP (σ 38)) (min len 12) 0)))) (upr σ 2 (mx (σ 38) (σ 2) (firstN (ldP (σ 38)) (min len 12) 0)))) := by
  generalize hr : firstN (ldP (σ 38)) (min len 12) 0 = r
  refine Ct.of (by decide +kernel) zX4_load (Nat.le_of_ble_eq_true rfl) (by decide) (fun X go => ?_)
  refine go.1 [30] 100 _ _ _ _ ?_
  have L : ∀ d k, k + d = min len 12 → firstN (ldP (σ 38)) d k = r → X 30 [(0, .ref 0), (1, .int (nI 1)), (2, .int 0), (3, .int (nI (min len 12))), (4, .int (nI k))] [] (upr σ 2 (mx (σ 38) (σ 2) k)) := by
    intro d
    induction d with
    | zero =>
      intro k hk hf
      have hf : r = k := hf.symm
      subst hf
      refine go.1 [30] 40 _ _ _ _ ?_
      refine br_t (nI_le (by omega) (by omega)) ?_
      exact And.intro rfl rfl
    | succ d ih =>
      intro k hk hf
      refine go.1 [30] 60 _ _ _ _ ?_
      refine br_f (nI_ge (by omega) (by omega)) ?_
      refine Exists.intro (1) (And.intro ⟨rfl, by decide, by omega⟩ ?_)
      refine Exists.intro (k) (And.intro ⟨rfl, by omega, by omega⟩ ?_)
      have out : bI (σ 38 k) 0 20 = false → r = k := fun hq => by rw [← hf]; exact if_pos (by unfold ldP; rw [hq]; rfl)
      refine And.intro (fun (q : σ 38 k < 0) => ?_) (fun (q : ¬ σ 38 k < 0) => ?_)
      · rw [lt0] at q
        have hf := out (bI_f.mpr (fun z => by omega))
        subst hf
        exact And.intro rfl rfl
      · rw [lt0] at q
        refine Exists.intro (1) (And.intro ⟨rfl, by decide, by omega⟩ ?_)
        refine Exists.intro (k) (And.intro ⟨rfl, by omega, by omega⟩ ?_)
        refine And.intro (fun (w : (20 : Int32) < σ 38 k) => ?_) (fun (w : ¬ (20 : Int32) < σ 38 k) => ?_)
        · rw [i_lt, show (20 : Int32).toInt = 20 from rfl] at w
          have hf := out (bI_f.mpr (fun z => by omega))
          subst hf
          exact And.intro rfl rfl
        · rw [i_lt, show (20 : Int32).toInt = 20 from rfl] at w
          have hq : bI (σ 38 k) 0 20 = true := bI_t.mpr ⟨by omega, by omega⟩
          have ihk := ih (k + 1) (by omega) (by rw [← hf]; exact (if_neg (by unfold ldP; rw [hq]; decide)).symm)
          have es : up2 (upr σ 2 (mx (σ 38) (σ 2) k)) 2 k (σ 38 k) = upr σ 2 (mx (σ 38) (σ 2) (k + 1)) := by
            show upr (upr σ 2 (mx (σ 38) (σ 2) k)) 2 (upd (upr σ 2 (mx (σ 38) (σ 2) k) 2) k _) = _
            rw [upr_in, upr_upr, mx_upd]
          rw [nI_succ k, ← es] at ihk
          refine Exists.intro (1) (And.intro ⟨rfl, by decide, by omega⟩ ?_)
          refine Exists.intro (k) (And.intro ⟨rfl, by omega, by omega⟩ ?_)
          refine Exists.intro (k) (And.intro ⟨rfl, by omega, by omega⟩ ?_)
          exact ihk
  have L0 := L (min len 12) 0 (by omega) hr
  rw [mx_0, upr_self, ← min12 hl, ← e2] at L0
  refine cl (ct_shF_ok_1 b1) ?_
  refine br_t (by decide) ?_
  refine Exists.intro (1) (And.intro ⟨rfl, by decide, by omega⟩ ?_)
  exact L0
theorem P_load_1 {σ : Sg} (h : J σ) : Pair mX4_load mX5_load [.int (nI 1)] σ := by
  have f46 := J46 h
  obtain ⟨n, hh, v, h9⟩ := h.1
  have hn8 := v.1.1
  have z1 := h.2.1.1
  have z10 := h.2.1.2.1
  have z46 := J_z46 h
  have z48 := h.2.2.2.1.1
  obtain ⟨len, hl, e2, e3, e1, eb, en⟩ := J_sh h 1 (by decide)
  have e1 : σ 37 1 = σ 52 1 := e1
  by_cases h0 : σ 52 1 = 0
  · refine Pair_fd h 5 ?_ ?_
    · refine Ct.of (by decide +kernel) zX4_load (Nat.le_of_ble_eq_true rfl) (by decide) (fun X go => ?_)
      refine go.1 [] 100 _ _ _ _ ?_
      refine cl (ct_shF_no_1 (σ := σ) (e1.trans h0)) ?_
      refine br_f (by decide) ?_
      exact And.intro rfl rfl
    · refine Ct.of (by decide +kernel) zX5_load (Nat.le_of_ble_eq_true rfl) (by decide) (fun X go => ?_)
      refine go.1 [] 100 _ _ _ _ ?_
      refine cl (ct_wrong_no (s := 1) (σ := tel σ 5) (by decide) h0) ?_
      refine br_f (by decide) ?_
      refine cl (ct_finds (w := 5) (by decide) fd5 _) ?_
      exact And.intro rfl rfl
  · generalize hr : firstN (ldP (σ 38)) (min len 12) 0 = r
    have hr12 : r ≤ 12 := by
      have := firstN_le (ldP (σ 38)) (min len 12) 0
      omega
    have c1 := ctc_load_1 hl (fun q => h0 (e1.symm.trans q)) e2
    have c2 := ctm_load (s := 1) (by decide) hl (σ := upr σ 2 (mx (σ 38) (σ 2) r)) h0 e3 (g := σ 38) (fun i hi => (en i hi).symm)
    rw [hr] at c1 c2
    refine ⟨nI r, _, _, c1, c2, ?_⟩
    refine J_row h (r := 1) (by decide) (f := mx (σ 38) (σ 2) r) ⟨n, hh, VT_vis v (fun p hp => ?_), h9⟩ ⟨z1.1, ⟨fun j hj => ?_, z1.2.1.2⟩, z1.2.2⟩ ?_
    · unfold mx
      by_cases q : p < r
      · rw [if_pos q]
        have hb : ldP (σ 38) p = false := firstN_true (min len 12) 0 p (Nat.zero_le _) (by rw [hr]; exact q)
        have hb : bI (σ 38 p) 0 20 = true := by
          unfold ldP at hb
          cases hz : bI (σ 38 p) 0 20 with
          | true => rfl
          | false => rw [hz] at hb; exact absurd hb (by decide)
        obtain ⟨x, -, hx, ex⟩ := bI_n hb (by decide) (by decide)
        exact ⟨x, by omega, ex⟩
      · rw [if_neg q]
        exact v.2.2.2.2.2.1 p hp
    · show mx (σ 38) (σ 2) r j = 0
      unfold mx
      rw [if_neg (by omega)]
      exact z1.2.1.1 j hj
    · show mx4 (σ 38) (σ 46) r = _
      rw [f46]
      exact flat_mx (T := Tq 1 σ) (g := σ 38) r hr12
theorem ctc_judge_1 {len n hh m : Nat} (hl : len ≤ 40) {σ : Sg} (v : VT n hh (Tq 1 σ)) (h9 : hh ≤ 999) (z1 : ZT (Tq 1 σ)) (z10 : ZT (Tq 10 σ)) (b1 : ¬ σ 37 1 = 0) (e2 : σ 37 2 = nI len) {nv : Int32} (hn : bI nv 0 96 = true) (en : nv = nI m) (hm2 : m ≤ 96) (late : ¬ 999 < hh + m) : Ct mX4_judge [.ref 0, .int (nI 1), .int nv] σ (Ex (some (.int (jdA (firstN (jdP (σ 38) (hrsT n (Tq 1 σ) m) n) (min len 12) 0) len))) (putSq 10 (hrsT n (Tq 1 σ) m) σ)) := by
  have vU := VT_hrs v m (by omega)
  have c1 := ct_passHours_10 v (show hh + m ≤ 2000 by omega) en σ
  generalize hU : hrsT n (Tq 1 σ) m = U at *
  generalize hr : firstN (jdP (σ 38) U n) (min len 12) 0 = r
  have hr12 : r ≤ 12 := by
    have := firstN_le (jdP (σ 38) U n) (min len 12) 0
    omega
  refine Ct.of (by decide +kernel) zX4_judge (Nat.le_of_ble_eq_true rfl) (by decide) (fun X go => ?_)
  refine go.1 [65] 100 _ _ _ _ ?_
  have E : X 102 [(0, .ref 0), (1, .int (nI 1)), (2, .int nv), (3, .int 0), (4, .int (nI (min len 12))), (5, .int (nI r))] [] (putSq 10 U σ) := by
    refine go.1 [] 40 _ _ _ _ ?_
    unfold jdA
    by_cases q : r = 12
    · subst q
      refine br_t (by decide) ?_
      refine Exists.intro (1) (And.intro ⟨rfl, by decide, by omega⟩ ?_)
      by_cases w : len = 12
      · refine br_t (show σ 37 2 = nI 12 from e2.trans (by rw [w])) ?_
        rw [if_pos ⟨rfl, w⟩]
        exact And.intro rfl rfl
      · refine br_f (fun z : σ 37 2 = nI 12 => w ((nI_eq (by omega) (by omega)).mp (e2.symm.trans z))) ?_
        rw [if_neg (fun z => w z.2)]
        exact And.intro rfl rfl
    · refine br_f (show ¬ nI r = nI 12 from fun z => q ((nI_eq (by omega) (by omega)).mp z)) ?_
      rw [if_neg (fun z => q z.1)]
      exact And.intro rfl rfl
  have L : ∀ d k, k + d = min len 12 → firstN (jdP (σ 38) U n) d k = r → X 65 [(0, .ref 0), (1, .int (nI 1)), (2, .int nv), (3, .int 0), (4, .int (nI (min len 12))), (5, .int (nI k))] [] (putSq 10 U σ) := by
    intro d
    induction d with
    | zero =>
      intro k hk hf
      have hf : r = k := hf.symm
      subst hf
      refine go.1 [102] 40 _ _ _ _ ?_
      refine br_t (nI_le (by omega) (by omega)) ?_
      exact E
    | succ d ih =>
      intro k hk hf
      have cs := ct_stallAt_10 (σ := putSq 10 U σ) (VT_tr vU) (nI k)
      rw [show atN (Tq 10 (putSq 10 U σ)) (nI k) n = atN U (nI k) n from atN_cong (T := Tq 10 (putSq 10 U σ)) (U := U) rfl _ n] at cs
      refine go.1 [65, 102] 60 _ _ _ _ ?_
      refine br_f (nI_ge (by omega) (by omega)) ?_
      refine Exists.intro (1) (And.intro ⟨rfl, by decide, by omega⟩ ?_)
      refine Exists.intro (k) (And.intro ⟨rfl, by omega, by omega⟩ ?_)
      refine cl cs ?_
      refine And.intro (fun (q : σ 38 k = atN U (nI k) n) => ?_) (fun (q : ¬ σ 38 k = atN U (nI k) n) => ?_)
      · have ihk := ih (k + 1) (by omega) (by rw [← hf]; exact (if_neg (by unfold jdP; rw [decide_eq_true q]; decide)).symm)
        rw [nI_succ k] at ihk
        exact ihk
      · have hf : r = k := by rw [← hf]; exact if_pos (by unfold jdP; rw [decide_eq_false q]; rfl)
        rw [hf] at E
        exact E
  refine cl (ct_shF_ok_1 b1) ?_
  refine br_t (by decide) ?_
  refine cl (ah_ok h9 v.1.2.2.2 0 96 (by decide) hn en (by omega) late) ?_
  refine br_t (by decide) ?_
  refine cl (ct_become_10_1 z10 z1) ?_
  refine cl c1 ?_
  refine Exists.intro (1) (And.intro ⟨rfl, by decide, by omega⟩ ?_)
  have L0 := L (min len 12) 0 (by omega) hr
  rw [← min12 hl, ← e2] at L0
  exact L0
theorem P_judge_1 {σ : Sg} (h : J σ) (nv : Int32) : Pair mX4_judge mX5_judge [.int (nI 1), .int nv] σ := by
  have f46 := J46 h
  obtain ⟨n, hh, v, h9⟩ := h.1
  have hn8 := v.1.1
  have z1 := h.2.1.1
  have z10 := h.2.1.2.1
  have z46 := J_z46 h
  have z48 := h.2.2.2.1.1
  obtain ⟨len, hl, e2, e3, e1, eb, en'⟩ := J_sh h 1 (by decide)
  have e1 : σ 37 1 = σ 52 1 := e1
  by_cases h0 : σ 52 1 = 0
  · refine Pair_fd h 5 ?_ ?_
    · refine Ct.of (by decide +kernel) zX4_judge (Nat.le_of_ble_eq_true rfl) (by decide) (fun X go => ?_)
      refine go.1 [] 100 _ _ _ _ ?_
      refine cl (ct_shF_no_1 (σ := σ) (e1.trans h0)) ?_
      refine br_f (by decide) ?_
      refine br_f (by decide) ?_
      exact And.intro rfl rfl
    · refine Ct.of (by decide +kernel) zX5_judge (Nat.le_of_ble_eq_true rfl) (by decide) (fun X go => ?_)
      refine go.1 [] 100 _ _ _ _ ?_
      refine cl (ct_wrong_no (s := 1) (σ := tel σ 5) (by decide) h0) ?_
      refine br_f (by decide) ?_
      refine br_f (by decide) ?_
      refine cl (ct_finds (w := 5) (by decide) fd5 _) ?_
      exact And.intro rfl rfl
  · have h1 : ¬ σ 37 1 = 0 := fun q => h0 (e1.symm.trans q)
    cases hn : bI nv 0 96 with
    | false =>
      refine Pair_fd h 0 ?_ ?_
      · refine Ct.of (by decide +kernel) zX4_judge (Nat.le_of_ble_eq_true rfl) (by decide) (fun X go => ?_)
        refine go.1 [] 100 _ _ _ _ ?_
        refine cl (ct_shF_ok_1 (σ := σ) h1) ?_
        refine br_t (by decide) ?_
        refine cl (ah_bad h9 v.1.2.2.2 0 96 (by decide) true hn) ?_
        refine br_f (by decide) ?_
        exact And.intro rfl rfl
      · refine Ct.of (by decide +kernel) zX5_judge (Nat.le_of_ble_eq_true rfl) (by decide) (fun X go => ?_)
        refine go.1 [] 100 _ _ _ _ ?_
        refine cl (ct_wrong_ok (s := 1) (σ := tel σ 0) (by decide) h0) ?_
        refine br_t (by decide) ?_
        refine cl (isSpM hn _) ?_
        refine br_t (by decide) ?_
        refine br_f (by decide) ?_
        refine cl (ct_finds (w := 0) (by decide) fd0 _) ?_
        exact And.intro rfl rfl
    | true =>
      obtain ⟨m, hm1, hm2, en⟩ := bI_n hn (by decide) (by decide)
      by_cases late : 999 < hh + m
      · refine Pair_fd h 4 ?_ ?_
        · refine Ct.of (by decide +kernel) zX4_judge (Nat.le_of_ble_eq_true rfl) (by decide) (fun X go => ?_)
          refine go.1 [] 100 _ _ _ _ ?_
          refine cl (ct_shF_ok_1 (σ := σ) h1) ?_
          refine br_t (by decide) ?_
          refine cl (ah_late h9 v.1.2.2.2 0 96 (by decide) hn en (by omega) late) ?_
          refine br_f (by decide) ?_
          exact And.intro rfl rfl
        · refine Ct.of (by decide +kernel) zX5_judge (Nat.le_of_ble_eq_true rfl) (by decide) (fun X go => ?_)
          refine go.1 [] 100 _ _ _ _ ?_
          refine cl (ct_wrong_ok (s := 1) (σ := tel σ 4) (by decide) h0) ?_
          refine br_t (by decide) ?_
          refine cl (isSpM hn _) ?_
          refine br_f (by decide) ?_
          refine cl (tl h9 (σ := tel σ 4) f46 v.1.2.2.2 en (by omega) (decide_eq_true late)) ?_
          refine br_f (by decide) ?_
          refine br_f (by decide) ?_
          refine cl (ct_finds (w := 4) (by decide) fd4 _) ?_
          exact And.intro rfl rfl
      · have c1 := ctc_judge_1 hl v h9 z1 z10 h1 e2 hn en (by omega) late
        have c2 := ctm_judge (s := 1) (by decide) hl (σ := putSq 10 (hrsT n (Tq 1 σ) m) σ) v h9 f46 z48 h0 e3 (g := σ 38) (fun i hi => (en' i hi).symm) hn en (by omega) late
        exact ⟨_, _, _, c1, c2, J_tr h (ZT_hrs hn8 z1 m)⟩

theorem ctc_load_2 {len : Nat} (hl : len ≤ 40) {σ : Sg} (b1 : ¬ σ 39 1 = 0) (e2 : σ 39 2 = nI len) : Ct mX4_load [.ref 0, .int (nI 2)] σ (Ex (some (.int (nI (firstN (ldP (σ 40)) (min len 12) 0)))) (upr σ 2 (mx (σ 40) (σ 2) (firstN (ldP (σ 40)) (min len 12) 0)))) := by
  generalize hr : firstN (ldP (σ 40)) (min len 12) 0 = r
  refine Ct.of (by decide +kernel) zX4_load (Nat.le_of_ble_eq_true rfl) (by decide) (fun X go => ?_)
  refine go.1 [30] 100 _ _ _ _ ?_
  have L : ∀ d k, k + d = min len 12 → firstN (ldP (σ 40)) d k = r → X 30 [(0, .ref 0), (1, .int (nI 2)), (2, .int 0), (3, .int (nI (min len 12))), (4, .int (nI k))] [] (upr σ 2 (mx (σ 40) (σ 2) k)) := by
    intro d
    induction d with
    | zero =>
      intro k hk hf
      have hf : r = k := hf.symm
      subst hf
      refine go.1 [30] 40 _ _ _ _ ?_
      refine br_t (nI_le (by omega) (by omega)) ?_
      exact And.intro rfl rfl
    | succ d ih =>
      intro k hk hf
      refine go.1 [30] 60 _ _ _ _ ?_
      refine br_f (nI_ge (by omega) (by omega)) ?_
      refine Exists.intro (2) (And.intro ⟨rfl, by decide, by omega⟩ ?_)
      refine Exists.intro (k) (And.intro ⟨rfl, by omega, by omega⟩ ?_)
      have out : bI (σ 40 k) 0 20 = false → r = k := fun hq => by rw [← hf]; exact if_pos (by unfold ldP; rw [hq]; rfl)
      refine And.intro (fun (q : σ 40 k < 0) => ?_) (fun (q : ¬ σ 40 k < 0) => ?_)
      · rw [lt0] at q
        have hf := out (bI_f.mpr (fun z => by omega))
        subst hf
        exact And.intro rfl rfl
      · rw [lt0] at q
        refine Exists.intro (2) (And.intro ⟨rfl, by decide, by omega⟩ ?_)
        refine Exists.intro (k) (And.intro ⟨rfl, by omega, by omega⟩ ?_)
        refine And.intro (fun (w : (20 : Int32) < σ 40 k) => ?_) (fun (w : ¬ (20 : Int32) < σ 40 k) => ?_)
        · rw [i_lt, show (20 : Int32).toInt = 20 from rfl] at w
          have hf := out (bI_f.mpr (fun z => by omega))
          subst hf
          exact And.intro rfl rfl
        · rw [i_lt, show (20 : Int32).toInt = 20 from rfl] at w
          have hq : bI (σ 40 k) 0 20 = true := bI_t.mpr ⟨by omega, by omega⟩
          have ihk := ih (k + 1) (by omega) (by rw [← hf]; exact (if_neg (by unfold ldP; rw [hq]; decide)).symm)
          have es : up2 (upr σ 2 (mx (σ 40) (σ 2) k)) 2 k (σ 40 k) = upr σ 2 (mx (σ 40) (σ 2) (k + 1)) := by
            show upr (upr σ 2 (mx (σ 40) (σ 2) k)) 2 (upd (upr σ 2 (mx (σ 40) (σ 2) k) 2) k _) = _
            rw [upr_in, upr_upr, mx_upd]
          rw [nI_succ k, ← es] at ihk
          refine Exists.intro (2) (And.intro ⟨rfl, by decide, by omega⟩ ?_)
          refine Exists.intro (k) (And.intro ⟨rfl, by omega, by omega⟩ ?_)
          refine Exists.intro (k) (And.intro ⟨rfl, by omega, by omega⟩ ?_)
          exact ihk
  have L0 := L (min len 12) 0 (by omega) hr
  rw [mx_0, upr_self, ← min12 hl, ← e2] at L0
  refine cl (ct_shF_ok_2 b1) ?_
  refine br_t (by decide) ?_
  refine Exists.intro (2) (And.intro ⟨rfl, by decide, by omega⟩ ?_)
  exact L0
theorem P_load_2 {σ : Sg} (h : J σ) : Pair mX4_load mX5_load [.int (nI 2)] σ := by
  have f46 := J46 h
  obtain ⟨n, hh, v, h9⟩ := h.1
  have hn8 := v.1.1
  have z1 := h.2.1.1
  have z10 := h.2.1.2.1
  have z46 := J_z46 h
  have z48 := h.2.2.2.1.1
  obtain ⟨len, hl, e2, e3, e1, eb, en⟩ := J_sh h 2 (by decide)
  have e1 : σ 39 1 = σ 52 2 := e1
  by_cases h0 : σ 52 2 = 0
  · refine Pair_fd h 5 ?_ ?_
    · refine Ct.of (by decide +kernel) zX4_load (Nat.le_of_ble_eq_true rfl) (by decide) (fun X go => ?_)
      refine go.1 [] 100 _ _ _ _ ?_
      refine cl (ct_shF_no_2 (σ := σ) (e1.trans h0)) ?_
      refine br_f (by decide) ?_
      exact And.intro rfl rfl
    · refine Ct.of (by decide +kernel) zX5_load (Nat.le_of_ble_eq_true rfl) (by decide) (fun X go => ?_)
      refine go.1 [] 100 _ _ _ _ ?_
      refine cl (ct_wrong_no (s := 2) (σ := tel σ 5) (by decide) h0) ?_
      refine br_f (by decide) ?_
      refine cl (ct_finds (w := 5) (by decide) fd5 _) ?_
      exact And.intro rfl rfl
  · generalize hr : firstN (ldP (σ 40)) (min len 12) 0 = r
    have hr12 : r ≤ 12 := by
      have := firstN_le (ldP (σ 40)) (min len 12) 0
      omega
    have c1 := ctc_load_2 hl (fun q => h0 (e1.symm.trans q)) e2
    have c2 := ctm_load (s := 2) (by decide) hl (σ := upr σ 2 (mx (σ 40) (σ 2) r)) h0 e3 (g := σ 40) (fun i hi => (en i hi).symm)
    rw [hr] at c1 c2
    refine ⟨nI r, _, _, c1, c2, ?_⟩
    refine J_row h (r := 1) (by decide) (f := mx (σ 40) (σ 2) r) ⟨n, hh, VT_vis v (fun p hp => ?_), h9⟩ ⟨z1.1, ⟨fun j hj => ?_, z1.2.1.2⟩, z1.2.2⟩ ?_
    · unfold mx
      by_cases q : p < r
      · rw [if_pos q]
        have hb : ldP (σ 40) p = false := firstN_true (min len 12) 0 p (Nat.zero_le _) (by rw [hr]; exact q)
        have hb : bI (σ 40 p) 0 20 = true := by
          unfold ldP at hb
          cases hz : bI (σ 40 p) 0 20 with
          | true => rfl
          | false => rw [hz] at hb; exact absurd hb (by decide)
        obtain ⟨x, -, hx, ex⟩ := bI_n hb (by decide) (by decide)
        exact ⟨x, by omega, ex⟩
      · rw [if_neg q]
        exact v.2.2.2.2.2.1 p hp
    · show mx (σ 40) (σ 2) r j = 0
      unfold mx
      rw [if_neg (by omega)]
      exact z1.2.1.1 j hj
    · show mx4 (σ 40) (σ 46) r = _
      rw [f46]
      exact flat_mx (T := Tq 1 σ) (g := σ 40) r hr12
theorem ctc_judge_2 {len n hh m : Nat} (hl : len ≤ 40) {σ : Sg} (v : VT n hh (Tq 1 σ)) (h9 : hh ≤ 999) (z1 : ZT (Tq 1 σ)) (z10 : ZT (Tq 10 σ)) (b1 : ¬ σ 39 1 = 0) (e2 : σ 39 2 = nI len) {nv : Int32} (hn : bI nv 0 96 = true) (en : nv = nI m) (hm2 : m ≤ 96) (late : ¬ 999 < hh + m) : Ct mX4_judge [.ref 0, .int (nI 2), .int nv] σ (Ex (some (.int (jdA (firstN (jdP (σ 40) (hrsT n (Tq 1 σ) m) n) (min len 12) 0) len))) (putSq 10 (hrsT n (Tq 1 σ) m) σ)) := by
  have vU := VT_hrs v m (by omega)
  have c1 := ct_passHours_10 v (show hh + m ≤ 2000 by omega) en σ
  generalize hU : hrsT n (Tq 1 σ) m = U at *
  generalize hr : firstN (jdP (σ 40) U n) (min len 12) 0 = r
  have hr12 : r ≤ 12 := by
    have := firstN_le (jdP (σ 40) U n) (min len 12) 0
    omega
  refine Ct.of (by decide +kernel) zX4_judge (Nat.le_of_ble_eq_true rfl) (by decide) (fun X go => ?_)
  refine go.1 [65] 100 _ _ _ _ ?_
  have E : X 102 [(0, .ref 0), (1, .int (nI 2)), (2, .int nv), (3, .int 0), (4, .int (nI (min len 12))), (5, .int (nI r))] [] (putSq 10 U σ) := by
    refine go.1 [] 40 _ _ _ _ ?_
    unfold jdA
    by_cases q : r = 12
    · subst q
      refine br_t (by decide) ?_
      refine Exists.intro (2) (And.intro ⟨rfl, by decide, by omega⟩ ?_)
      by_cases w : len = 12
      · refine br_t (show σ 39 2 = nI 12 from e2.trans (by rw [w])) ?_
        rw [if_pos ⟨rfl, w⟩]
        exact And.intro rfl rfl
      · refine br_f (fun z : σ 39 2 = nI 12 => w ((nI_eq (by omega) (by omega)).mp (e2.symm.trans z))) ?_
        rw [if_neg (fun z => w z.2)]
        exact And.intro rfl rfl
    · refine br_f (show ¬ nI r = nI 12 from fun z => q ((nI_eq (by omega) (by omega)).mp z)) ?_
      rw [if_neg (fun z => q z.1)]
      exact And.intro rfl rfl
  have L : ∀ d k, k + d = min len 12 → firstN (jdP (σ 40) U n) d k = r → X 65 [(0, .ref 0), (1, .int (nI 2)), (2, .int nv), (3, .int 0), (4, .int (nI (min len 12))), (5, .int (nI k))] [] (putSq 10 U σ) := by
    intro d
    induction d with
    | zero =>
      intro k hk hf
      have hf : r = k := hf.symm
      subst hf
      refine go.1 [102] 40 _ _ _ _ ?_
      refine br_t (nI_le (by omega) (by omega)) ?_
      exact E
    | succ d ih =>
      intro k hk hf
      have cs := ct_stallAt_10 (σ := putSq 10 U σ) (VT_tr vU) (nI k)
      rw [show atN (Tq 10 (putSq 10 U σ)) (nI k) n = atN U (nI k) n from atN_cong (T := Tq 10 (putSq 10 U σ)) (U := U) rfl _ n] at cs
      refine go.1 [65, 102] 60 _ _ _ _ ?_
      refine br_f (nI_ge (by omega) (by omega)) ?_
      refine Exists.intro (2) (And.intro ⟨rfl, by decide, by omega⟩ ?_)
      refine Exists.intro (k) (And.intro ⟨rfl, by omega, by omega⟩ ?_)
      refine cl cs ?_
      refine And.intro (fun (q : σ 40 k = atN U (nI k) n) => ?_) (fun (q : ¬ σ 40 k = atN U (nI k) n) => ?_)
      · have ihk := ih (k + 1) (by omega) (by rw [← hf]; exact (if_neg (by unfold jdP; rw [decide_eq_true q]; decide)).symm)
        rw [nI_succ k] at ihk
        exact ihk
      · have hf : r = k := by rw [← hf]; exact if_pos (by unfold jdP; rw [decide_eq_false q]; rfl)
        rw [hf] at E
        exact E
  refine cl (ct_shF_ok_2 b1) ?_
  refine br_t (by decide) ?_
  refine cl (ah_ok h9 v.1.2.2.2 0 96 (by decide) hn en (by omega) late) ?_
  refine br_t (by decide) ?_
  refine cl (ct_become_10_1 z10 z1) ?_
  refine cl c1 ?_
  refine Exists.intro (2) (And.intro ⟨rfl, by decide, by omega⟩ ?_)
  have L0 := L (min len 12) 0 (by omega) hr
  rw [← min12 hl, ← e2] at L0
  exact L0
theorem P_judge_2 {σ : Sg} (h : J σ) (nv : Int32) : Pair mX4_judge mX5_judge [.int (nI 2), .int nv] σ := by
  have f46 := J46 h
  obtain ⟨n, hh, v, h9⟩ := h.1
  have hn8 := v.1.1
  have z1 := h.2.1.1
  have z10 := h.2.1.2.1
  have z46 := J_z46 h
  have z48 := h.2.2.2.1.1
  obtain ⟨len, hl, e2, e3, e1, eb, en'⟩ := J_sh h 2 (by decide)
  have e1 : σ 39 1 = σ 52 2 := e1
  by_cases h0 : σ 52 2 = 0
  · refine Pair_fd h 5 ?_ ?_
    · refine Ct.of (by decide +kernel) zX4_judge (Nat.le_of_ble_eq_true rfl) (by decide) (fun X go => ?_)
      refine go.1 [] 100 _ _ _ _ ?_
      refine cl (ct_shF_no_2 (σ := σ) (e1.trans h0)) ?_
      refine br_f (by decide) ?_
      refine br_f (by decide) ?_
      exact And.intro rfl rfl
    · refine Ct.of (by decide +kernel) zX5_judge (Nat.le_of_ble_eq_true rfl) (by decide) (fun X go => ?_)
      refine go.1 [] 100 _ _ _ _ ?_
      refine cl (ct_wrong_no (s := 2) (σ := tel σ 5) (by decide) h0) ?_
      refine br_f (by decide) ?_
      refine br_f (by decide) ?_
      refine cl (ct_finds (w := 5) (by decide) fd5 _) ?_
      exact And.intro rfl rfl
  · have h1 : ¬ σ 39 1 = 0 := fun q => h0 (e1.symm.trans q)
    cases hn : bI nv 0 96 with
    | false =>
      refine Pair_fd h 0 ?_ ?_
      · refine Ct.of (by decide +kernel) zX4_judge (Nat.le_of_ble_eq_true rfl) (by decide) (fun X go => ?_)
        refine go.1 [] 100 _ _ _ _ ?_
        refine cl (ct_shF_ok_2 (σ := σ) h1) ?_
        refine br_t (by decide) ?_
        refine cl (ah_bad h9 v.1.2.2.2 0 96 (by decide) true hn) ?_
        refine br_f (by decide) ?_
        exact And.intro rfl rfl
      · refine Ct.of (by decide +kernel) zX5_judge (Nat.le_of_ble_eq_true rfl) (by decide) (fun X go => ?_)
        refine go.1 [] 100 _ _ _ _ ?_
        refine cl (ct_wrong_ok (s := 2) (σ := tel σ 0) (by decide) h0) ?_
        refine br_t (by decide) ?_
        refine cl (isSpM hn _) ?_
        refine br_t (by decide) ?_
        refine br_f (by decide) ?_
        refine cl (ct_finds (w := 0) (by decide) fd0 _) ?_
        exact And.intro rfl rfl
    | true =>
      obtain ⟨m, hm1, hm2, en⟩ := bI_n hn (by decide) (by decide)
      by_cases late : 999 < hh + m
      · refine Pair_fd h 4 ?_ ?_
        · refine Ct.of (by decide +kernel) zX4_judge (Nat.le_of_ble_eq_true rfl) (by decide) (fun X go => ?_)
          refine go.1 [] 100 _ _ _ _ ?_
          refine cl (ct_shF_ok_2 (σ := σ) h1) ?_
          refine br_t (by decide) ?_
          refine cl (ah_late h9 v.1.2.2.2 0 96 (by decide) hn en (by omega) late) ?_
          refine br_f (by decide) ?_
          exact And.intro rfl rfl
        · refine Ct.of (by decide +kernel) zX5_judge (Nat.le_of_ble_eq_true rfl) (by decide) (fun X go => ?_)
          refine go.1 [] 100 _ _ _ _ ?_
          refine cl (ct_wrong_ok (s := 2) (σ := tel σ 4) (by decide) h0) ?_
          refine br_t (by decide) ?_
          refine cl (isSpM hn _) ?_
          refine br_f (by decide) ?_
          refine cl (tl h9 (σ := tel σ 4) f46 v.1.2.2.2 en (by omega) (decide_eq_true late)) ?_
          refine br_f (by decide) ?_
          refine br_f (by decide) ?_
          refine cl (ct_finds (w := 4) (by decide) fd4 _) ?_
          exact And.intro rfl rfl
      · have c1 := ctc_judge_2 hl v h9 z1 z10 h1 e2 hn en (by omega) late
        have c2 := ctm_judge (s := 2) (by decide) hl (σ := putSq 10 (hrsT n (Tq 1 σ) m) σ) v h9 f46 z48 h0 e3 (g := σ 40) (fun i hi => (en' i hi).symm) hn en (by omega) late
        exact ⟨_, _, _, c1, c2, J_tr h (ZT_hrs hn8 z1 m)⟩

theorem ctc_load_3 {len : Nat} (hl : len ≤ 40) {σ : Sg} (b1 : ¬ σ 41 1 = 0) (e2 : σ 41 2 = nI len) : Ct mX4_load [.ref 0, .int (nI 3)] σ (Ex (some (.int (nI (firstN (ldP (σ 42)) (min len 12) 0)))) (upr σ 2 (mx (σ 42) (σ 2) (firstN (ldP (σ 42)) (min len 12) 0)))) := by
  generalize hr : firstN (ldP (σ 42)) (min len 12) 0 = r
  refine Ct.of (by decide +kernel) zX4_load (Nat.le_of_ble_eq_true rfl) (by decide) (fun X go => ?_)
  refine go.1 [30] 100 _ _ _ _ ?_
  have L : ∀ d k, k + d = min len 12 → firstN (ldP (σ 42)) d k = r → X 30 [(0, .ref 0), (1, .int (nI 3)), (2, .int 0), (3, .int (nI (min len 12))), (4, .int (nI k))] [] (upr σ 2 (mx (σ 42) (σ 2) k)) := by
    intro d
    induction d with
    | zero =>
      intro k hk hf
      have hf : r = k := hf.symm
      subst hf
      refine go.1 [30] 40 _ _ _ _ ?_
      refine br_t (nI_le (by omega) (by omega)) ?_
      exact And.intro rfl rfl
    | succ d ih =>
      intro k hk hf
      refine go.1 [30] 60 _ _ _ _ ?_
      refine br_f (nI_ge (by omega) (by omega)) ?_
      refine Exists.intro (3) (And.intro ⟨rfl, by decide, by omega⟩ ?_)
      refine Exists.intro (k) (And.intro ⟨rfl, by omega, by omega⟩ ?_)
      have out : bI (σ 42 k) 0 20 = false → r = k := fun hq => by rw [← hf]; exact if_pos (by unfold ldP; rw [hq]; rfl)
      refine And.intro (fun (q : σ 42 k < 0) => ?_) (fun (q : ¬ σ 42 k < 0) => ?_)
      · rw [lt0] at q
        have hf := out (bI_f.mpr (fun z => by omega))
        subst hf
        exact And.intro rfl rfl
      · rw [lt0] at q
        refine Exists.intro (3) (And.intro ⟨rfl, by decide, by omega⟩ ?_)
        refine Exists.intro (k) (And.intro ⟨rfl, by omega, by omega⟩ ?_)
        refine And.intro (fun (w : (20 : Int32) < σ 42 k) => ?_) (fun (w : ¬ (20 : Int32) < σ 42 k) => ?_)
        · rw [i_lt, show (20 : Int32).toInt = 20 from rfl] at w
          have hf := out (bI_f.mpr (fun z => by omega))
          subst hf
          exact And.intro rfl rfl
        · rw [i_lt, show (20 : Int32).toInt = 20 from rfl] at w
          have hq : bI (σ 42 k) 0 20 = true := bI_t.mpr ⟨by omega, by omega⟩
          have ihk := ih (k + 1) (by omega) (by rw [← hf]; exact (if_neg (by unfold ldP; rw [hq]; decide)).symm)
          have es : up2 (upr σ 2 (mx (σ 42) (σ 2) k)) 2 k (σ 42 k) = upr σ 2 (mx (σ 42) (σ 2) (k + 1)) := by
            show upr (upr σ 2 (mx (σ 42) (σ 2) k)) 2 (upd (upr σ 2 (mx (σ 42) (σ 2) k) 2) k _) = _
            rw [upr_in, upr_upr, mx_upd]
          rw [nI_succ k, ← es] at ihk
          refine Exists.intro (3) (And.intro ⟨rfl, by decide, by omega⟩ ?_)
          refine Exists.intro (k) (And.intro ⟨rfl, by omega, by omega⟩ ?_)
          refine Exists.intro (k) (And.intro ⟨rfl, by omega, by omega⟩ ?_)
          exact ihk
  have L0 := L (min len 12) 0 (by omega) hr
  rw [mx_0, upr_self, ← min12 hl, ← e2] at L0
  refine cl (ct_shF_ok_3 b1) ?_
  refine br_t (by decide) ?_
  refine Exists.intro (3) (And.intro ⟨rfl, by decide, by omega⟩ ?_)
  exact L0
theorem P_load_3 {σ : Sg} (h : J σ) : Pair mX4_load mX5_load [.int (nI 3)] σ := by
  have f46 := J46 h
  obtain ⟨n, hh, v, h9⟩ := h.1
  have hn8 := v.1.1
  have z1 := h.2.1.1
  have z10 := h.2.1.2.1
  have z46 := J_z46 h
  have z48 := h.2.2.2.1.1
  obtain ⟨len, hl, e2, e3, e1, eb, en⟩ := J_sh h 3 (by decide)
  have e1 : σ 41 1 = σ 52 3 := e1
  by_cases h0 : σ 52 3 = 0
  · refine Pair_fd h 5 ?_ ?_
    · refine Ct.of (by decide +kernel) zX4_load (Nat.le_of_ble_eq_true rfl) (by decide) (fun X go => ?_)
      refine go.1 [] 100 _ _ _ _ ?_
      refine cl (ct_shF_no_3 (σ := σ) (e1.trans h0)) ?_
      refine br_f (by decide) ?_
      exact And.intro rfl rfl
    · refine Ct.of (by decide +kernel) zX5_load (Nat.le_of_ble_eq_true rfl) (by decide) (fun X go => ?_)
      refine go.1 [] 100 _ _ _ _ ?_
      refine cl (ct_wrong_no (s := 3) (σ := tel σ 5) (by decide) h0) ?_
      refine br_f (by decide) ?_
      refine cl (ct_finds (w := 5) (by decide) fd5 _) ?_
      exact And.intro rfl rfl
  · generalize hr : firstN (ldP (σ 42)) (min len 12) 0 = r
    have hr12 : r ≤ 12 := by
      have := firstN_le (ldP (σ 42)) (min len 12) 0
      omega
    have c1 := ctc_load_3 hl (fun q => h0 (e1.symm.trans q)) e2
    have c2 := ctm_load (s := 3) (by decide) hl (σ := upr σ 2 (mx (σ 42) (σ 2) r)) h0 e3 (g := σ 42) (fun i hi => (en i hi).symm)
    rw [hr] at c1 c2
    refine ⟨nI r, _, _, c1, c2, ?_⟩
    refine J_row h (r := 1) (by decide) (f := mx (σ 42) (σ 2) r) ⟨n, hh, VT_vis v (fun p hp => ?_), h9⟩ ⟨z1.1, ⟨fun j hj => ?_, z1.2.1.2⟩, z1.2.2⟩ ?_
    · unfold mx
      by_cases q : p < r
      · rw [if_pos q]
        have hb : ldP (σ 42) p = false := firstN_true (min len 12) 0 p (Nat.zero_le _) (by rw [hr]; exact q)
        have hb : bI (σ 42 p) 0 20 = true := by
          unfold ldP at hb
          cases hz : bI (σ 42 p) 0 20 with
          | true => rfl
          | false => rw [hz] at hb; exact absurd hb (by decide)
        obtain ⟨x, -, hx, ex⟩ := bI_n hb (by decide) (by decide)
        exact ⟨x, by omega, ex⟩
      · rw [if_neg q]
        exact v.2.2.2.2.2.1 p hp
    · show mx (σ 42) (σ 2) r j = 0
      unfold mx
      rw [if_neg (by omega)]
      exact z1.2.1.1 j hj
    · show mx4 (σ 42) (σ 46) r = _
      rw [f46]
      exact flat_mx (T := Tq 1 σ) (g := σ 42) r hr12
theorem ctc_judge_3 {len n hh m : Nat} (hl : len ≤ 40) {σ : Sg} (v : VT n hh (Tq 1 σ)) (h9 : hh ≤ 999) (z1 : ZT (Tq 1 σ)) (z10 : ZT (Tq 10 σ)) (b1 : ¬ σ 41 1 = 0) (e2 : σ 41 2 = nI len) {nv : Int32} (hn : bI nv 0 96 = true) (en : nv = nI m) (hm2 : m ≤ 96) (late : ¬ 999 < hh + m) : Ct mX4_judge [.ref 0, .int (nI 3), .int nv] σ (Ex (some (.int (jdA (firstN (jdP (σ 42) (hrsT n (Tq 1 σ) m) n) (min len 12) 0) len))) (putSq 10 (hrsT n (Tq 1 σ) m) σ)) := by
  have vU := VT_hrs v m (by omega)
  have c1 := ct_passHours_10 v (show hh + m ≤ 2000 by omega) en σ
  generalize hU : hrsT n (Tq 1 σ) m = U at *
  generalize hr : firstN (jdP (σ 42) U n) (min len 12) 0 = r
  have hr12 : r ≤ 12 := by
    have := firstN_le (jdP (σ 42) U n) (min len 12) 0
    omega
  refine Ct.of (by decide +kernel) zX4_judge (Nat.le_of_ble_eq_true rfl) (by decide) (fun X go => ?_)
  refine go.1 [65] 100 _ _ _ _ ?_
  have E : X 102 [(0, .ref 0), (1, .int (nI 3)), (2, .int nv), (3, .int 0), (4, .int (nI (min len 12))), (5, .int (nI r))] [] (putSq 10 U σ) := by
    refine go.1 [] 40 _ _ _ _ ?_
    unfold jdA
    by_cases q : r = 12
    · subst q
      refine br_t (by decide) ?_
      refine Exists.intro (3) (And.intro ⟨rfl, by decide, by omega⟩ ?_)
      by_cases w : len = 12
      · refine br_t (show σ 41 2 = nI 12 from e2.trans (by rw [w])) ?_
        rw [if_pos ⟨rfl, w⟩]
        exact And.intro rfl rfl
      · refine br_f (fun z : σ 41 2 = nI 12 => w ((nI_eq (by omega) (by omega)).mp (e2.symm.trans z))) ?_
        rw [if_neg (fun z => w z.2)]
        exact And.intro rfl rfl
    · refine br_f (show ¬ nI r = nI 12 from fun z => q ((nI_eq (by omega) (by omega)).mp z)) ?_
      rw [if_neg (fun z => q z.1)]
      exact And.intro rfl rfl
  have L : ∀ d k, k + d = min len 12 → firstN (jdP (σ 42) U n) d k = r → X 65 [(0, .ref 0), (1, .int (nI 3)), (2, .int nv), (3, .int 0), (4, .int (nI (min len 12))), (5, .int (nI k))] [] (putSq 10 U σ) := by
    intro d
    induction d with
    | zero =>
      intro k hk hf
      have hf : r = k := hf.symm
      subst hf
      refine go.1 [102] 40 _ _ _ _ ?_
      refine br_t (nI_le (by omega) (by omega)) ?_
      exact E
    | succ d ih =>
      intro k hk hf
      have cs := ct_stallAt_10 (σ := putSq 10 U σ) (VT_tr vU) (nI k)
      rw [show atN (Tq 10 (putSq 10 U σ)) (nI k) n = atN U (nI k) n from atN_cong (T := Tq 10 (putSq 10 U σ)) (U := U) rfl _ n] at cs
      refine go.1 [65, 102] 60 _ _ _ _ ?_
      refine br_f (nI_ge (by omega) (by omega)) ?_
      refine Exists.intro (3) (And.intro ⟨rfl, by decide, by omega⟩ ?_)
      refine Exists.intro (k) (And.intro ⟨rfl, by omega, by omega⟩ ?_)
      refine cl cs ?_
      refine And.intro (fun (q : σ 42 k = atN U (nI k) n) => ?_) (fun (q : ¬ σ 42 k = atN U (nI k) n) => ?_)
      · have ihk := ih (k + 1) (by omega) (by rw [← hf]; exact (if_neg (by unfold jdP; rw [decide_eq_true q]; decide)).symm)
        rw [nI_succ k] at ihk
        exact ihk
      · have hf : r = k := by rw [← hf]; exact if_pos (by unfold jdP; rw [decide_eq_false q]; rfl)
        rw [hf] at E
        exact E
  refine cl (ct_shF_ok_3 b1) ?_
  refine br_t (by decide) ?_
  refine cl (ah_ok h9 v.1.2.2.2 0 96 (by decide) hn en (by omega) late) ?_
  refine br_t (by decide) ?_
  refine cl (ct_become_10_1 z10 z1) ?_
  refine cl c1 ?_
  refine Exists.intro (3) (And.intro ⟨rfl, by decide, by omega⟩ ?_)
  have L0 := L (min len 12) 0 (by omega) hr
  rw [← min12 hl, ← e2] at L0
  exact L0
theorem P_judge_3 {σ : Sg} (h : J σ) (nv : Int32) : Pair mX4_judge mX5_judge [.int (nI 3), .int nv] σ := by
  have f46 := J46 h
  obtain ⟨n, hh, v, h9⟩ := h.1
  have hn8 := v.1.1
  have z1 := h.2.1.1
  have z10 := h.2.1.2.1
  have z46 := J_z46 h
  have z48 := h.2.2.2.1.1
  obtain ⟨len, hl, e2, e3, e1, eb, en'⟩ := J_sh h 3 (by decide)
  have e1 : σ 41 1 = σ 52 3 := e1
  by_cases h0 : σ 52 3 = 0
  · refine Pair_fd h 5 ?_ ?_
    · refine Ct.of (by decide +kernel) zX4_judge (Nat.le_of_ble_eq_true rfl) (by decide) (fun X go => ?_)
      refine go.1 [] 100 _ _ _ _ ?_
      refine cl (ct_shF_no_3 (σ := σ) (e1.trans h0)) ?_
      refine br_f (by decide) ?_
      refine br_f (by decide) ?_
      exact And.intro rfl rfl
    · refine Ct.of (by decide +kernel) zX5_judge (Nat.le_of_ble_eq_true rfl) (by decide) (fun X go => ?_)
      refine go.1 [] 100 _ _ _ _ ?_
      refine cl (ct_wrong_no (s := 3) (σ := tel σ 5) (by decide) h0) ?_
      refine br_f (by decide) ?_
      refine br_f (by decide) ?_
      refine cl (ct_finds (w := 5) (by decide) fd5 _) ?_
      exact And.intro rfl rfl
  · have h1 : ¬ σ 41 1 = 0 := fun q => h0 (e1.symm.trans q)
    cases hn : bI nv 0 96 with
    | false =>
      refine Pair_fd h 0 ?_ ?_
      · refine Ct.of (by decide +kernel) zX4_judge (Nat.le_of_ble_eq_true rfl) (by decide) (fun X go => ?_)
        refine go.1 [] 100 _ _ _ _ ?_
        refine cl (ct_shF_ok_3 (σ := σ) h1) ?_
        refine br_t (by decide) ?_
        refine cl (ah_bad h9 v.1.2.2.2 0 96 (by decide) true hn) ?_
        refine br_f (by decide) ?_
        exact And.intro rfl rfl
      · refine Ct.of (by decide +kernel) zX5_judge (Nat.le_of_ble_eq_true rfl) (by decide) (fun X go => ?_)
        refine go.1 [] 100 _ _ _ _ ?_
        refine cl (ct_wrong_ok (s := 3) (σ := tel σ 0) (by decide) h0) ?_
        refine br_t (by decide) ?_
        refine cl (isSpM hn _) ?_
        refine br_t (by decide) ?_
        refine br_f (by decide) ?_
        refine cl (ct_finds (w := 0) (by decide) fd0 _) ?_
        exact And.intro rfl rfl
    | true =>
      obtain ⟨m, hm1, hm2, en⟩ := bI_n hn (by decide) (by decide)
      by_cases late : 999 < hh + m
      · refine Pair_fd h 4 ?_ ?_
        · refine Ct.of (by decide +kernel) zX4_judge (Nat.le_of_ble_eq_true rfl) (by decide) (fun X go => ?_)
          refine go.1 [] 100 _ _ _ _ ?_
          refine cl (ct_shF_ok_3 (σ := σ) h1) ?_
          refine br_t (by decide) ?_
          refine cl (ah_late h9 v.1.2.2.2 0 96 (by decide) hn en (by omega) late) ?_
          refine br_f (by decide) ?_
          exact And.intro rfl rfl
        · refine Ct.of (by decide +kernel) zX5_judge (Nat.le_of_ble_eq_true rfl) (by decide) (fun X go => ?_)
          refine go.1 [] 100 _ _ _ _ ?_
          refine cl (ct_wrong_ok (s := 3) (σ := tel σ 4) (by decide) h0) ?_
          refine br_t (by decide) ?_
          refine cl (isSpM hn _) ?_
          refine br_f (by decide) ?_
          refine cl (tl h9 (σ := tel σ 4) f46 v.1.2.2.2 en (by omega) (decide_eq_true late)) ?_
          refine br_f (by decide) ?_
          refine br_f (by decide) ?_
          refine cl (ct_finds (w := 4) (by decide) fd4 _) ?_
          exact And.intro rfl rfl
      · have c1 := ctc_judge_3 hl v h9 z1 z10 h1 e2 hn en (by omega) late
        have c2 := ctm_judge (s := 3) (by decide) hl (σ := putSq 10 (hrsT n (Tq 1 σ) m) σ) v h9 f46 z48 h0 e3 (g := σ 42) (fun i hi => (en' i hi).symm) hn en (by omega) late
        exact ⟨_, _, _, c1, c2, J_tr h (ZT_hrs hn8 z1 m)⟩

theorem P_load {σ : Sg} (h : J σ) (s : Int32) : Pair mX4_load mX5_load [.int s] σ := by
  cases hs : bI s 0 3 with
  | false =>
      refine Pair_fd h 0 ?_ ?_
      · refine Ct.of (by decide +kernel) zX4_load (Nat.le_of_ble_eq_true rfl) (by decide) (fun X go => ?_)
        refine go.1 [] 100 _ _ _ _ ?_
        refine cl (ct_shF_bad hs σ) ?_
        refine br_f (by decide) ?_
        exact And.intro rfl rfl
      · refine Ct.of (by decide +kernel) zX5_load (Nat.le_of_ble_eq_true rfl) (by decide) (fun X go => ?_)
        refine go.1 [] 100 _ _ _ _ ?_
        refine cl (ct_wrong_bad hs (tel σ 0)) ?_
        refine br_f (by decide) ?_
        refine cl (ct_finds (w := 0) (by decide) fd0 _) ?_
        exact And.intro rfl rfl
  | true =>
    obtain ⟨t, -, ht, rfl⟩ := bI_n hs (by decide) (by decide)
    have ht : t = 0 ∨ t = 1 ∨ t = 2 ∨ t = 3 := by omega
    rcases ht with rfl | rfl | rfl | rfl
    · exact P_load_0 h
    · exact P_load_1 h
    · exact P_load_2 h
    · exact P_load_3 h
theorem P_judge {σ : Sg} (h : J σ) (s nv : Int32) : Pair mX4_judge mX5_judge [.int s, .int nv] σ := by
  cases hs : bI s 0 3 with
  | false =>
      refine Pair_fd h 0 ?_ ?_
      · refine Ct.of (by decide +kernel) zX4_judge (Nat.le_of_ble_eq_true rfl) (by decide) (fun X go => ?_)
        refine go.1 [] 100 _ _ _ _ ?_
        refine cl (ct_shF_bad hs σ) ?_
        refine br_f (by decide) ?_
        refine br_f (by decide) ?_
        exact And.intro rfl rfl
      · refine Ct.of (by decide +kernel) zX5_judge (Nat.le_of_ble_eq_true rfl) (by decide) (fun X go => ?_)
        refine go.1 [] 100 _ _ _ _ ?_
        refine cl (ct_wrong_bad hs (tel σ 0)) ?_
        refine br_f (by decide) ?_
        refine br_f (by decide) ?_
        refine cl (ct_finds (w := 0) (by decide) fd0 _) ?_
        exact And.intro rfl rfl
  | true =>
    obtain ⟨t, -, ht, rfl⟩ := bI_n hs (by decide) (by decide)
    have ht : t = 0 ∨ t = 1 ∨ t = 2 ∨ t = 3 := by omega
    rcases ht with rfl | rfl | rfl | rfl
    · exact P_judge_0 h nv
    · exact P_judge_1 h nv
    · exact P_judge_2 h nv
    · exact P_judge_3 h nv
