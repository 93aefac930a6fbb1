/-! THE REFERENCE's ITEMS -/
theorem ct_perhaps_no {σ T : Sg} {r : Nat → Int32} (lo hi y : Int32) : Ct mX5_perhaps [.ref 45, .int 0, .int lo, .int hi, .int y] (RS σ T r) (Ex (some (.int y)) (RS σ T r)) := by
  refine Ct.of (by decide +kernel) zX5_perhaps (Nat.le_of_ble_eq_true rfl) (by decide) (fun X go => ?_)
  refine go.1 [] 100 _ _ _ _ ?_
  refine br_t (by decide) ?_
  exact And.intro rfl rfl
theorem ct_perhaps_w {B : Nat → Nat} {m : Nat} {σ : Sg} (tb : TBm σ B m) {T : Sg} {r0 r : Nat → Int32} {f : Nat} (q : Q B m r0 f true r) (hf : f ≤ m) (lo hi y : Int32) : Ct mX5_perhaps [.ref 45, .int 1, .int lo, .int hi, .int y] (RS σ T r) (fun x σ' => ∃ z r', x = some (.int z) ∧ σ' = RS σ T r' ∧ Q B m r0 f true r') := by
  refine Ct.of (by decide +kernel) zX5_perhaps (Nat.le_of_ble_eq_true rfl) (by decide) (fun X go => ?_)
  refine go.1 [] 100 _ _ _ _ ?_
  refine br_f (by decide) ?_
  refine clG (ct_needs tb q hf true rfl) (fun x τ hr => ?_)
  obtain ⟨rfl, r1, rfl, q1, -⟩ := hr
  have q1 : Q B m r0 f true r1 := q1
  refine cl (ct_number_w q1 lo hi) ?_
  exact ⟨_, r1, rfl, rfl, q1⟩
theorem ct_perhaps {B : Nat → Nat} {m : Nat} {σ : Sg} (tb : TBm σ B m) {T : Sg} {r0 r : Nat → Int32} {f : Nat} (q : Q B m r0 f false r) (hf : f ≤ m) {a b : Nat} (ha : a < 10000) (hb : b < 10000) {lo hi : Int32} (el : lo = nI a) (eh : hi = nI b) (y : Int32) : Ct mX5_perhaps [.ref 45, .int 1, .int lo, .int hi, .int y] (RS σ T r) (fun x σ' => ∃ z r', x = some (.int z) ∧ σ' = RS σ T r' ∧ Q B m r0 (bif isNm B m (nx B m f) a b then nx B m (nx B m f) else nx B m f) (!isNm B m (nx B m f) a b) r' ∧ (dgt B m (nx B m f) = true → z = nI (val B m (nx B m f)))) := by
  refine Ct.of (by decide +kernel) zX5_perhaps (Nat.le_of_ble_eq_true rfl) (by decide) (fun X go => ?_)
  refine go.1 [] 100 _ _ _ _ ?_
  refine br_f (by decide) ?_
  refine clG (ct_needs tb q hf true rfl) (fun x τ hr => ?_)
  obtain ⟨rfl, r1, rfl, q1, -⟩ := hr
  have q1 : Q B m r0 (nx B m f) false r1 := q1
  refine clG (ct_number tb q1 (nx_le hf).2 ha hb el eh) (fun x τ hr => ?_)
  obtain ⟨rfl, r2, rfl, q2, e11⟩ := hr
  exact ⟨_, r2, rfl, rfl, q2, e11⟩
theorem ct_freePlace {B : Nat → Nat} {m : Nat} {σ : Sg} (tb : TBm σ B m) {T : Sg} {n hh : Nat} (v : VT n hh T) {r0 r : Nat → Int32} {f : Nat} (q : Q B m r0 f false r) (hf : f ≤ m) : Ct mX5_freePlace [.ref 45] (RS σ T r) (fun x σ' => x = none ∧ ∃ r', σ' = RS σ T r' ∧ Q B m r0 (bif (isNm B m f 0 11 && decide (atN T (nI (val B m f)) n < 0)) then nx B m f else f) (!(isNm B m f 0 11 && decide (atN T (nI (val B m f)) n < 0))) r' ∧ (dgt B m f = true → r' 11 = nI (val B m f))) := by
  have hm := tb.1
  have hle := tE_le (B := B) hf
  have h1 := q.1
  have h9 := q.2.1
  have h10 := q.2.2.1
  generalize hbb : (isNm B m f 0 11 && decide (atN T (nI (val B m f)) n < 0)) = bb
  refine Ct.of (by decide +kernel) zX5_freePlace (Nat.le_of_ble_eq_true rfl) (by decide) (fun X go => ?_)
  refine go.1 [7] 60 _ _ _ _ ?_
  have E : ∀ (x : Nat) (k : Nat), (dgt B m f = true → x = val B m f) → x < 100000 → X 61 [(0, .ref 45), (1, .int (nI x)), (2, .int (nI k))] [] (RS σ T r) := by
    intro x k hx hx9
    have q11 := Q11 q (nI x)
    have K : X 101 [(0, .ref 45), (1, .int (nI x)), (2, .int (nI k))] [.int (zb bb), .ref 45] (RS σ T (upd r 11 (nI x))) := by
      refine go.1 [] 20 _ _ _ _ ?_
      refine clG (ct_needs tb q11 hf bb rfl) (fun y τ hr => ?_)
      obtain ⟨rfl, r', rfl, q', e11⟩ := hr
      refine And.intro rfl ⟨r', rfl, ?_, fun hd => by rw [e11, upd_eq, hx hd]⟩
      have hz : ndF B m f false bb = bif bb then nx B m f else f := by
        unfold ndF
        cases bb <;> rfl
      rw [hz] at q'
      exact q'
    rw [← RS_2] at K
    refine go.1 [101] 60 _ _ _ _ ?_
    refine And.intro ⟨rfl, rfl⟩ ?_
    refine cl (ct_bA (τ := up2 (RS σ T r) 45 11 (nI x)) (B := B) tb (show r 8 = nI m from h1) (k := f) (by omega) (show up2 (RS σ T r) 45 11 (nI x) 45 9 = nI f from h9)) ?_
    have c := isDg (τ := up2 (RS σ T r) 45 11 (nI x)) (k := f) tb
    cases hd : iB 48 57 B m f with
    | false =>
      rw [show dgt B m f = false from hd] at c
      have hz : bb = false := by rw [← hbb]; unfold isNm; rw [show dgt B m f = false from hd]; rfl
      rw [hz] at K
      refine cl c ?_
      refine br_t (by decide) ?_
      exact K
    | true =>
      have hxv := hx hd
      rw [show dgt B m f = true from hd] at c
      refine cl c ?_
      refine br_f (by decide) ?_
      have hnm : bI (nI x) 0 11 = isNm B m f 0 11 := by
        have := bI_a (x := x) (a := 0) (b := 11) (by omega) (by decide) (by decide)
        rw [show (nI 0).toInt = 0 from rfl, show (nI 11).toInt = 11 from rfl] at this
        rw [this]
        unfold isNm
        rw [show dgt B m f = true from hd, hxv]
        rfl
      cases hn : isNm B m f 0 11 with
      | false =>
        have hz : bb = false := by rw [← hbb, hn]; rfl
        rw [hz] at K
        refine cl (isPM (hnm.trans hn) _) ?_
        refine br_t (by decide) ?_
        exact K
      | true =>
        refine cl (isPM (hnm.trans hn) _) ?_
        refine br_f (by decide) ?_
        have cs := ct_stallAtM v (nI x) (upr σ 45 (upd r 11 (nI x)))
        rw [show MS (upr σ 45 (upd r 11 (nI x))) T = up2 (RS σ T r) 45 11 (nI x) from (RS_2 σ T r 11 (nI x)).symm] at cs
        refine cl cs ?_
        have hz : bb = decide (atN T (nI x) n < 0) := by rw [← hbb, hn, hxv]; rfl
        refine And.intro (fun (z : 0 ≤ atN T (nI x) n) => ?_) (fun (z : ¬ 0 ≤ atN T (nI x) n) => ?_)
        · rw [hz, decide_eq_false (Int32.not_lt.mpr z)] at K
          exact K
        · rw [hz, decide_eq_true (Int32.not_le.mp z)] at K
          exact K
  cases hd : iB 48 57 B m f with
  | false =>
    have x0 : X 7 [(0, .ref 45), (1, .int 0), (2, .int (nI f))] [] (RS σ T r) := by
      have e0 := E 0 f (fun z => by rw [show dgt B m f = false from hd] at z; exact absurd z (by decide)) (by decide)
      have c := isDg (τ := RS σ T r) (k := f) tb
      rw [show dgt B m f = false from hd] at c
      refine go.1 [61] 60 _ _ _ _ ?_
      refine And.intro (fun _ => e0) (fun _ => ?_)
      refine cl (ct_bA (τ := RS σ T r) (B := B) tb (show r 8 = nI m from h1) (k := f) (by omega) h9) ?_
      refine cl c ?_
      refine br_t (by decide) ?_
      exact e0
    rw [← h9] at x0
    exact x0
  | true =>
    have L : ∀ d k, k + d = tE B m f - f → X 7 [(0, .ref 45), (1, .int (nI (vN B f k))), (2, .int (nI (f + k)))] [] (RS σ T r) := by
      intro d
      induction d with
      | zero =>
        intro k hk
        have hk : k = tE B m f - f := by omega
        subst hk
        have e0 := E (val B m f) (f + (tE B m f - f)) (fun _ => rfl) (by have := val_le hd; omega)
        refine go.1 [7, 61] 60 _ _ _ _ ?_
        refine br_t (show r 10 ≤ nI (f + (tE B m f - f)) from by rw [h10]; exact nI_le (by omega) (by omega)) ?_
        exact e0
      | succ d ih =>
        intro k hk
        have l3 := dg_run hd (show k < tE B m f - f by omega)
        have hv := vN_le (B := B) (f := f) k (fun i hi => (dg_run hd (show i < tE B m f - f by omega)).2.1)
        have ihk := ih (k + 1) (by omega)
        rw [show nI (f + (k + 1)) = nI (f + k) + 1 from nI_succ _] at ihk
        have c := isDg (τ := RS σ T r) (k := f) tb
        rw [show dgt B m f = true from hd] at c
        refine go.1 [7, 61] 60 _ _ _ _ ?_
        refine br_f (show ¬ r 10 ≤ nI (f + k) from by rw [h10]; exact nI_ge (by omega) (by omega)) ?_
        refine cl (ct_bA (τ := RS σ T r) (B := B) tb (show r 8 = nI m from h1) (k := f) (by omega) h9) ?_
        refine cl c ?_
        refine br_f (show ¬ (1 : Int32) = 0 by decide) ?_
        by_cases z : 999 < vN B f k
        · refine br_f (show ¬ nI (vN B f k) ≤ nI 999 from nI_ge z (by omega)) ?_
          rw [show vN B f (k + 1) = vN B f k from by rw [vN, if_pos z]] at ihk
          exact ihk
        · refine br_t (show nI (vN B f k) ≤ nI 999 from nI_le (by omega) (by omega)) ?_
          refine Exists.intro (f + k) (And.intro ⟨rfl, by omega, by omega⟩ ?_)
          rw [← vstep z l3.1, ← (tb.2 (f + k) l3.2.2).1] at ihk
          exact ihk
    have L0 := L (tE B m f - f) 0 (by omega)
    rw [Nat.add_zero, ← h9] at L0
    exact L0
theorem kd_hit {B : Nat → Nat} {m f k : Nat} (hk : k < 7) (h : iW B m f (kix k) = true) (h0 : ∀ j, j < k → iW B m f (kix j) = false) : kdW B m f = k := by
  have key : ∀ d j, j + d = 7 → j ≤ k → firstN (fun k => iW B m f (kix k)) d j = k := by
    intro d
    induction d with
    | zero => intro j h1 h2; omega
    | succ d ih =>
      intro j h1 h2
      by_cases e : j = k
      · subst e; exact firstN_h (P := fun k => iW B m f (kix k)) h
      · rw [firstN_s (P := fun k => iW B m f (kix k)) (h0 j (by omega))]
        exact ih (j + 1) (by omega) (by omega)
  exact key 7 0 (by omega) (by omega)
theorem kd_none {B : Nat → Nat} {m f : Nat} (h0 : ∀ j, j < 7 → iW B m f (kix j) = false) : kdW B m f = 7 := by
  have key : ∀ d j, j + d = 7 → firstN (fun k => iW B m f (kix k)) d j = 7 := by
    intro d
    induction d with
    | zero => intro j h1; exact h1
    | succ d ih =>
      intro j h1
      rw [firstN_s (P := fun k => iW B m f (kix k)) (h0 j (by omega))]
      exact ih (j + 1) (by omega)
  exact key 7 0 (by omega)
def kdM (B : Nat → Nat) (m f : Nat) (w : Bool) : Int32 := bif w then -1 else kdI (kdW B m f)
theorem ct_kindHere {B : Nat → Nat} {m : Nat} {σ : Sg} (tb : TBm σ B m) {T : Sg} {r0 r : Nat → Int32} {f : Nat} {w : Bool} (q : Q B m r0 f w r) (hf : f ≤ m) : Ct mX5_kindHere [.ref 45] (RS σ T r) (Ex (some (.int (kdM B m f w))) (RS σ T r)) := by
  have hB : ∀ k, k < m → B k < 256 := fun k hk => (tb.2 k hk).2
  have c := ct_word tb q hf (T := T)
  generalize hv : wdV B m f w = x at c
  refine Ct.of (by decide +kernel) zX5_kindHere (Nat.le_of_ble_eq_true rfl) (by decide) (fun X go => ?_)
  refine go.1 [] 100 _ _ _ _ ?_
  refine cl c ?_
  have tst : ∀ j, j < 7 → (lg_cmp x (lN (wcN (kix j))) = 0 ↔ (!w && iW B m f (kix j)) = true) := fun j hj => by rw [← hv]; exact wd_c hB (kix_lt j hj) w
  have hit : ∀ j, j < 7 → (!w && iW B m f (kix j)) = true → (∀ i, i < j → (!w && iW B m f (kix i)) = false) → kdM B m f w = nI j := by
    intro j hj h h0
    obtain ⟨h1, h2⟩ := Bool.and_eq_true_iff.mp h
    have hw : w = false := by cases w <;> first | rfl | exact absurd h1 (by decide)
    subst hw
    have hk := kd_hit hj h2 (fun i hi => h0 i hi)
    show kdI (kdW B m f) = nI j
    rw [hk]
    exact if_pos hj
  have nf : ∀ j, j < 7 → ¬ lg_cmp x (lN (wcN (kix j))) = 0 → (!w && iW B m f (kix j)) = false := fun j hj h => Bool.eq_false_iff.mpr (fun z => h ((tst j hj).mpr z))
  refine And.intro (fun (h0 : lg_cmp x (lN (wcN (kix 0))) = 0) => And.intro (by rw [hit 0 (by decide) ((tst 0 (by decide)).mp h0) (fun i hi => absurd hi (by omega))]; rfl) rfl) (fun (h0 : ¬ lg_cmp x (lN (wcN (kix 0))) = 0) => ?_)
  have g0 := nf 0 (by decide) h0
  refine And.intro (fun (h1 : lg_cmp x (lN (wcN (kix 1))) = 0) => And.intro (by rw [hit 1 (by decide) ((tst 1 (by decide)).mp h1) (fun i hi => by have : i = 0 := (by omega); subst this; exact g0)]; rfl) rfl) (fun (h1 : ¬ lg_cmp x (lN (wcN (kix 1))) = 0) => ?_)
  have g1 := nf 1 (by decide) h1
  refine And.intro (fun (h2 : lg_cmp x (lN (wcN (kix 2))) = 0) => And.intro (by rw [hit 2 (by decide) ((tst 2 (by decide)).mp h2) (fun i hi => by have : i = 0 ∨ i = 1 := (by omega); rcases this with rfl | rfl <;> assumption)]; rfl) rfl) (fun (h2 : ¬ lg_cmp x (lN (wcN (kix 2))) = 0) => ?_)
  have g2 := nf 2 (by decide) h2
  refine And.intro (fun (h3 : lg_cmp x (lN (wcN (kix 3))) = 0) => And.intro (by rw [hit 3 (by decide) ((tst 3 (by decide)).mp h3) (fun i hi => by have : i = 0 ∨ i = 1 ∨ i = 2 := (by omega); rcases this with rfl | rfl | rfl <;> assumption)]; rfl) rfl) (fun (h3 : ¬ lg_cmp x (lN (wcN (kix 3))) = 0) => ?_)
  have g3 := nf 3 (by decide) h3
  refine And.intro (fun (h4 : lg_cmp x (lN (wcN (kix 4))) = 0) => And.intro (by rw [hit 4 (by decide) ((tst 4 (by decide)).mp h4) (fun i hi => by have : i = 0 ∨ i = 1 ∨ i = 2 ∨ i = 3 := (by omega); rcases this with rfl | rfl | rfl | rfl <;> assumption)]; rfl) rfl) (fun (h4 : ¬ lg_cmp x (lN (wcN (kix 4))) = 0) => ?_)
  have g4 := nf 4 (by decide) h4
  refine And.intro (fun (h5 : lg_cmp x (lN (wcN (kix 5))) = 0) => And.intro (by rw [hit 5 (by decide) ((tst 5 (by decide)).mp h5) (fun i hi => by have : i = 0 ∨ i = 1 ∨ i = 2 ∨ i = 3 ∨ i = 4 := (by omega); rcases this with rfl | rfl | rfl | rfl | rfl <;> assumption)]; rfl) rfl) (fun (h5 : ¬ lg_cmp x (lN (wcN (kix 5))) = 0) => ?_)
  have g5 := nf 5 (by decide) h5
  refine And.intro (fun (h6 : lg_cmp x (lN (wcN (kix 6))) = 0) => And.intro (by rw [hit 6 (by decide) ((tst 6 (by decide)).mp h6) (fun i hi => by have : i = 0 ∨ i = 1 ∨ i = 2 ∨ i = 3 ∨ i = 4 ∨ i = 5 := (by omega); rcases this with rfl | rfl | rfl | rfl | rfl | rfl <;> assumption)]; rfl) rfl) (fun (h6 : ¬ lg_cmp x (lN (wcN (kix 6))) = 0) => ?_)
  have g6 := nf 6 (by decide) h6
  refine And.intro ?_ rfl
  cases w with
  | true => rfl
  | false =>
    have hk := kd_none (B := B) (m := m) (f := f) (fun j hj => by
      have : j = 0 ∨ j = 1 ∨ j = 2 ∨ j = 3 ∨ j = 4 ∨ j = 5 ∨ j = 6 := by omega
      rcases this with rfl | rfl | rfl | rfl | rfl | rfl | rfl <;> assumption)
    show some (Value.int (-1)) = some (Value.int (kdI (kdW B m f)))
    rw [hk]
    rfl
/-- a word compared -/
theorem wb {B : Nat → Nat} {m : Nat} {σ : Sg} (tb : TBm σ B m) {f : Nat} (w : Bool) {k : Nat} (hk : k < 15) {c : Int64} (ec : c = lN (wcN k)) {P P' : Prop} (h1 : (!w && iW B m f k) = true → P) (h2 : (!w && iW B m f k) = false → P') : (lg_cmp (wdV B m f w) c = 0 → P) ∧ (¬ lg_cmp (wdV B m f w) c = 0 → P') := by
  subst ec
  have hB : ∀ k, k < m → B k < 256 := fun k hk => (tb.2 k hk).2
  exact ⟨fun z => h1 ((wd_c hB hk w).mp z), fun z => h2 (Bool.eq_false_iff.mpr (fun y => z ((wd_c hB hk w).mpr y)))⟩
def RJ (σ : Sg) (B : Nat → Nat) (m : Nat) (r0 : Nat → Int32) (res : Rsl) : Rt := fun x σ' => x = none ∧ ∃ U r', σ' = RS σ U r' ∧ Q B m r0 res.2.2.2 (!res.1) r' ∧ (res.1 = true → U = res.2.1)
theorem RJ_f {σ : Sg} {B : Nat → Nat} {m : Nat} {r0 : Nat → Int32} {res : Rsl} {T U : Sg} {n f : Nat} {r : Nat → Int32} (hr : (false, T, n, f) = res) (q : Q B m r0 f true r) : RJ σ B m r0 res none (RS σ U r) := by
  subst hr
  exact ⟨rfl, U, r, rfl, q, fun h => absurd h (by show ¬ false = true; decide)⟩
theorem RJ_t {σ : Sg} {B : Nat → Nat} {m : Nat} {r0 : Nat → Int32} {res : Rsl} {T : Sg} {n f : Nat} {r : Nat → Int32} (hr : (true, T, n, f) = res) (q : Q B m r0 f false r) : RJ σ B m r0 res none (RS σ T r) := by
  subst hr
  exact ⟨rfl, T, r, rfl, q, fun _ => rfl⟩
theorem ct_stallItem {B : Nat → Nat} {m : Nat} {σ : Sg} (tb : TBm σ B m) {T : Sg} {n hh kd f : Nat} (v : VT n hh T) {r0 r : Nat → Int32} (q : Q B m r0 f false r) (hf : f < m) (hk : kd < 7) {kv : Int32} (ek : kv = nI kd) : Ct mX5_stallItem [.ref 45, .int kv] (RS σ T r) (RJ σ B m r0 (stI B m T n kd f)) := by
  subst ek
  have hn8 := v.1.1
  have e9 : T 0 9 = nI n := v.1.2.2.1
  have f1 := nx_gt (B := B) hf
  generalize hres : stI B m T n kd f = res
  refine Ct.of (by decide +kernel) zX5_stallItem (Nat.le_of_ble_eq_true rfl) (by decide) (fun X go => ?_)
  refine go.1 [17] 100 _ _ _ _ ?_
  -- wrong tails
  have W82 : ∀ (p g : Int32) (e : Nat) (r : Nat → Int32), (false, T, n, e) = res → Q B m r0 e true r → X 82 [(0, .ref 45), (1, .int (nI kd)), (2, .int p), (3, .int g)] [] (RS σ T r) := by
    intro p g e r hr q
    refine go.1 [] 20 _ _ _ _ ?_
    refine br_f (show ¬ r 12 = 0 from by rw [q.2.2.2.1]; decide) ?_
    exact RJ_f hr q
  have W51 : ∀ (e : Nat) (r : Nat → Int32), e ≤ m → (false, T, n, e) = res → Q B m r0 e true r → X 51 [(0, .ref 45), (1, .int (nI kd))] [] (RS σ T r) := by
    intro e r he hr q
    refine go.1 [82] 60 _ _ _ _ ?_
    refine cl (ct_word tb q he) ?_
    refine wb tb true (k := 8) (by decide) (by decide) (fun z => absurd z (by show ¬ false = true; decide)) (fun _ => ?_)
    refine cl (ct_perhaps_no _ _ _) ?_
    exact W82 _ _ e r hr q
  have W20 : ∀ (e : Nat) (r : Nat → Int32), e ≤ m → (false, T, n, e) = res → Q B m r0 e true r → X 20 [(0, .ref 45), (1, .int (nI kd))] [] (RS σ T r) := by
    intro e r he hr q
    refine go.1 [51] 60 _ _ _ _ ?_
    refine cl (ct_word tb q he) ?_
    refine wb tb true (k := 7) (by decide) (by decide) (fun z => absurd z (by show ¬ false = true; decide)) (fun _ => ?_)
    refine clG (ct_needs tb q he false rfl) (fun x τ hrr => ?_)
    obtain ⟨rfl, r1, rfl, q1, -⟩ := hrr
    have q1 : Q B m r0 e true r1 := q1
    refine br_f (show ¬ r1 12 = 0 from by rw [q1.2.2.2.1]; decide) ?_
    exact W51 e r1 he hr q1
  refine Exists.intro 1 (And.intro ⟨rfl, by decide, by decide⟩ ?_)
  by_cases q0 : n < 8
  · refine br_f (show ¬ nI 8 ≤ T 0 9 from by rw [e9]; exact nI_ge q0 (by decide)) ?_
    have hres : stA B m T n kd (nx B m f) = res := by rw [← hres]; exact (bif_t (blt_t q0)).symm
    refine go.1 [20] 20 _ _ _ _ ?_
    refine clG (ct_needs tb q (by omega) true rfl) (fun x τ hrr => ?_)
    obtain ⟨rfl, r1, rfl, q1, -⟩ := hrr
    have q1 : Q B m r0 (nx B m f) false r1 := q1
    refine go.1 [] 60 _ _ _ _ ?_
    refine cl (ct_word tb q1 f1.2) ?_
    refine wb tb false (k := 7) (by decide) (by decide) (fun z => ?_) (fun z => ?_)
    · have z : iW B m (nx B m f) 7 = true := z
      have f2 := nx_gt (B := B) (iW_lt z)
      have hres : stB' B m T n kd (nx B m (nx B m f)) = res := by rw [← hres]; exact (bif_t z).symm
      refine clG (ct_needs tb q1 f1.2 true rfl) (fun x τ hrr => ?_)
      obtain ⟨rfl, r2, rfl, q2, -⟩ := hrr
      have q2 : Q B m r0 (nx B m (nx B m f)) false r2 := q2
      refine br_t (show r2 12 = 0 from q2.2.2.2.1) ?_
      refine clG (ct_freePlace tb v q2 f2.2) (fun x τ hrr => ?_)
      obtain ⟨rfl, r3, rfl, q3, e11⟩ := hrr
      cases hb : (isNm B m (nx B m (nx B m f)) 0 11 && decide (atN T (nI (val B m (nx B m (nx B m f)))) n < 0)) with
      | false =>
        rw [hb] at q3
        have q3 : Q B m r0 (nx B m (nx B m f)) true r3 := q3
        have w := W51 _ r3 f2.2 (by rw [← hres]; exact (bif_f hb).symm) q3
        have w2 : X 51 [(0, .ref 45), (1, .int (nI kd))] [] (RS σ T r3) := w
        refine cl (ct_word tb q3 f2.2) ?_
        refine wb tb true (k := 8) (by decide) (by decide) (fun z => absurd z (by show ¬ false = true; decide)) (fun _ => ?_)
        refine cl (ct_perhaps_no _ _ _) ?_
        refine br_f (show ¬ r3 12 = 0 from by rw [q3.2.2.2.1]; decide) ?_
        exact RJ_f (T := T) (n := n) (by rw [← hres]; exact (bif_f hb).symm) q3
      | true =>
        rw [hb] at q3
        have q3 : Q B m r0 (nx B m (nx B m (nx B m f))) false r3 := q3
        obtain ⟨hn, ha⟩ := Bool.and_eq_true_iff.mp hb
        have f3 := nx_gt (B := B) (isNm_lt hn)
        have e11 := e11 (isNm_t hn).1
        have hres : stC B m T n kd (val B m (nx B m (nx B m f))) (nx B m (nx B m (nx B m f))) = res := by rw [← hres]; exact (bif_t hb).symm
        refine cl (ct_word tb q3 f3.2) ?_
        refine wb tb false (k := 8) (by decide) (by decide) (fun z => ?_) (fun z => ?_)
        · have z : iW B m (nx B m (nx B m (nx B m f))) 8 = true := z
          have f4 := nx_gt (B := B) (iW_lt z)
          refine clG (ct_perhaps tb q3 f3.2 (a := 0) (b := 99) (by decide) (by decide) rfl rfl _) (fun x τ hrr => ?_)
          obtain ⟨g, r4, rfl, rfl, q4, e4⟩ := hrr
          cases hn4 : isNm B m (nx B m (nx B m (nx B m (nx B m f)))) 0 99 with
          | false =>
            rw [hn4] at q4
            have q4 : Q B m r0 (nx B m (nx B m (nx B m (nx B m f)))) true r4 := q4
            refine br_f (show ¬ r4 12 = 0 from by rw [q4.2.2.2.1]; decide) ?_
            exact RJ_f (T := T) (n := n) (by rw [← hres]; exact ((bif_t z).trans (bif_f hn4)).symm) q4
          | true =>
            rw [hn4] at q4
            have q4 : Q B m r0 (nx B m (nx B m (nx B m (nx B m (nx B m f))))) false r4 := q4
            have e4 := e4 (isNm_t hn4).1
            refine br_t (show r4 12 = 0 from q4.2.2.2.1) ?_
            have cn := ct_newStall q0 e9 (nI kd) (r3 11) g (upr σ 45 r4)
            refine cl cn ?_
            exact RJ_t (by rw [← hres, e11, e4]; exact ((bif_t z).trans (bif_t hn4)).symm) q4
        · have z : iW B m (nx B m (nx B m (nx B m f))) 8 = false := z
          refine cl (ct_perhaps_no _ _ _) ?_
          refine br_t (show r3 12 = 0 from q3.2.2.2.1) ?_
          have cn := ct_newStall q0 e9 (nI kd) (r3 11) 20 (upr σ 45 r3)
          refine cl cn ?_
          exact RJ_t (by rw [← hres, e11]; exact (bif_f z).symm) q3
    · have z : iW B m (nx B m f) 7 = false := z
      refine clG (ct_needs tb q1 f1.2 false rfl) (fun x τ hrr => ?_)
      obtain ⟨rfl, r2, rfl, q2, -⟩ := hrr
      have q2 : Q B m r0 (nx B m f) true r2 := q2
      refine br_f (show ¬ r2 12 = 0 from by rw [q2.2.2.2.1]; decide) ?_
      refine cl (ct_word tb q2 f1.2) ?_
      refine wb tb true (k := 8) (by decide) (by decide) (fun z => absurd z (by show ¬ false = true; decide)) (fun _ => ?_)
      refine cl (ct_perhaps_no _ _ _) ?_
      refine br_f (show ¬ r2 12 = 0 from by rw [q2.2.2.2.1]; decide) ?_
      exact RJ_f (T := T) (n := n) (by rw [← hres]; exact (bif_f z).symm) q2
  · refine br_t (show nI 8 ≤ T 0 9 from by rw [e9]; exact nI_le (by omega) (by omega)) ?_
    have hr : (false, T, n, f) = res := by rw [← hres]; exact (bif_f (blt_f q0)).symm
    refine go.1 [20] 20 _ _ _ _ ?_
    refine clG (ct_needs tb q (by omega) false rfl) (fun x τ hrr => ?_)
    obtain ⟨rfl, r1, rfl, q1, -⟩ := hrr
    exact W20 f r1 (by omega) hr q1
theorem ct_visitsItem {B : Nat → Nat} {m : Nat} {σ : Sg} (tb : TBm σ B m) {T : Sg} {n hh f : Nat} (v : VT n hh T) {r0 r : Nat → Int32} (q : Q B m r0 f false r) (hf : f < m) : Ct mX5_visitsItem [.ref 45] (RS σ T r) (RJ σ B m r0 (viI B m T n f)) := by
  have f1 := nx_gt (B := B) hf
  generalize hres : viI B m T n f = res
  refine Ct.of (by decide +kernel) zX5_visitsItem (Nat.le_of_ble_eq_true rfl) (by decide) (fun X go => ?_)
  refine go.1 [10] 100 _ _ _ _ ?_
  have W64 : ∀ (lo hi p : Int32) (e : Nat) (r : Nat → Int32), (false, T, n, e) = res → Q B m r0 e true r → X 64 [(0, .ref 45), (1, .int lo), (2, .int hi), (3, .int p)] [] (RS σ T r) := by
    intro lo hi p e r hr q
    refine go.1 [] 20 _ _ _ _ ?_
    refine And.intro (fun _ => RJ_f hr q) (fun _ => ?_)
    refine br_f (show ¬ r 12 = 0 from by rw [q.2.2.2.1]; decide) ?_
    exact RJ_f hr q
  have W55 : ∀ (lo hi : Int32) (e : Nat) (r : Nat → Int32), (false, T, n, e) = res → Q B m r0 e true r → X 55 [(0, .ref 45), (1, .int lo), (2, .int hi)] [] (RS σ T r) := by
    intro lo hi e r hr q
    refine go.1 [64] 20 _ _ _ _ ?_
    refine cl (ct_number_w q 0 20) ?_
    exact W64 _ _ _ e r hr q
  have W35 : ∀ (lo hi : Int32) (e : Nat) (r : Nat → Int32), e ≤ m → (false, T, n, e) = res → Q B m r0 e true r → X 35 [(0, .ref 45), (1, .int lo), (2, .int hi)] [] (RS σ T r) := by
    intro lo hi e r he hr q
    refine go.1 [55] 60 _ _ _ _ ?_
    refine cl (ct_word tb q he) ?_
    refine wb tb true (k := 11) (by decide) (by decide) (fun z => absurd z (by show ¬ false = true; decide)) (fun _ => ?_)
    refine clG (ct_needs tb q he false rfl) (fun x τ hrr => ?_)
    obtain ⟨rfl, r1, rfl, q1, -⟩ := hrr
    exact W55 _ _ e r1 hr q1
  have W10 : ∀ (lo : Int32) (e : Nat) (r : Nat → Int32), e ≤ m → (false, T, n, e) = res → Q B m r0 e true r → X 10 [(0, .ref 45), (1, .int lo)] [] (RS σ T r) := by
    intro lo e r he hr q
    refine go.1 [35] 60 _ _ _ _ ?_
    refine cl (ct_word tb q he) ?_
    refine wb tb true (k := 10) (by decide) (by decide) (fun z => absurd z (by show ¬ false = true; decide)) (fun _ => ?_)
    refine cl (ct_perhaps_no _ _ _) ?_
    exact W35 _ _ e r he hr q
  refine clG (ct_perhaps tb q (by omega) (a := 0) (b := 11) (by decide) (by decide) rfl rfl _) (fun x τ hrr => ?_)
  obtain ⟨lo, r1, rfl, rfl, q1, e1⟩ := hrr
  cases hn1 : isNm B m (nx B m f) 0 11 with
  | false =>
    rw [hn1] at q1
    exact W10 lo (nx B m f) r1 f1.2 (by rw [← hres]; exact (bif_f hn1).symm) q1
  | true =>
    rw [hn1] at q1
    have q1 : Q B m r0 (nx B m (nx B m f)) false r1 := q1
    have hres : viB B m T n (val B m (nx B m f)) (nx B m (nx B m f)) = res := by rw [← hres]; exact (bif_t hn1).symm
    have f2 := nx_gt (B := B) (isNm_lt hn1)
    have v1 := (isNm_t hn1).2.2
    have e1 := e1 (isNm_t hn1).1
    generalize ha : val B m (nx B m f) = a at *
    subst e1
    have H35 : ∀ (b g : Nat) (r : Nat → Int32), a ≤ b → b ≤ 11 → g ≤ m → Q B m r0 g false r → viC B m T n a b g = res → X 35 [(0, .ref 45), (1, .int (nI a)), (2, .int (nI b))] [] (RS σ T r) := by
      intro b g r hab hb hg q hres
      refine go.1 [55] 60 _ _ _ _ ?_
      refine cl (ct_word tb q hg) ?_
      refine wb tb false (k := 11) (by decide) (by decide) (fun z => ?_) (fun z => ?_)
      · have z : iW B m g 11 = true := z
        have g1 := nx_gt (B := B) (iW_lt z)
        refine clG (ct_needs tb q hg true rfl) (fun x τ hrr => ?_)
        obtain ⟨rfl, r2, rfl, q2, -⟩ := hrr
        have q2 : Q B m r0 (nx B m g) false r2 := q2
        refine go.1 [64] 20 _ _ _ _ ?_
        refine clG (ct_number tb q2 g1.2 (a := 0) (b := 20) (by decide) (by decide) rfl rfl) (fun x τ hrr => ?_)
        obtain ⟨rfl, r3, rfl, q3, e3⟩ := hrr
        cases hn : isNm B m (nx B m g) 0 20 with
        | false =>
          rw [hn] at q3
          exact W64 _ _ _ (nx B m g) r3 (by rw [← hres]; exact ((bif_t z).trans (bif_f hn)).symm) q3
        | true =>
          rw [hn] at q3
          have q3 : Q B m r0 (nx B m (nx B m g)) false r3 := q3
          have e3 := e3 (isNm_t hn).1
          have hres : (true, visT T a b (val B m (nx B m g)), n, nx B m (nx B m g)) = res := by rw [← hres]; exact ((bif_t z).trans (bif_t hn)).symm
          generalize hw : val B m (nx B m g) = y at *
          have L : ∀ d k, k + d = b + 1 → a ≤ k → X 64 [(0, .ref 45), (1, .int (nI a)), (2, .int (nI b)), (3, .int (nI k))] [] (RS σ (upr T 1 (vz (T 1) a k y)) r3) := by
            intro d
            induction d with
            | zero =>
              intro k hk hak
              have hk : k = b + 1 := by omega
              subst hk
              refine go.1 [64] 60 _ _ _ _ ?_
              refine br_t (show nI b < nI (b + 1) from nI_lt (by omega) (by omega)) ?_
              exact RJ_t hres q3
            | succ d ih =>
              intro k hk hak
              have ihk := ih (k + 1) (by omega) (by omega)
              have es : up2 (RS σ (upr T 1 (vz (T 1) a k y)) r3) 46 (4 + k) (r3 11) = RS σ (upr T 1 (vz (T 1) a (k + 1) y)) r3 := by
                rw [e3]
                refine (U2 (upr σ 45 r3) 46 (flat (upr T 1 (vz (T 1) a k y))) (4 + k) (nI y)).trans ?_
                rw [flat_upd_v (show k < 12 by omega), upr_in, upr_upr, vz_s (T 1) hak]
              rw [nI_succ k, ← es] at ihk
              refine go.1 [64] 60 _ _ _ _ ?_
              refine br_f (show ¬ nI b < nI k from nI_nlt (by omega) (by omega)) ?_
              refine br_t (show r3 12 = 0 from q3.2.2.2.1) ?_
              refine Exists.intro (4 + k) (And.intro ⟨nI_add 4 k, by omega, by omega⟩ ?_)
              exact ihk
          have L0 := L (b + 1 - a) a (by omega) (Nat.le_refl a)
          rw [vz_0, upr_self] at L0
          exact L0
      · have z : iW B m g 11 = false := z
        refine clG (ct_needs tb q hg false rfl) (fun x τ hrr => ?_)
        obtain ⟨rfl, r2, rfl, q2, -⟩ := hrr
        exact W55 _ _ g r2 (by rw [← hres]; exact (bif_f z).symm) q2
    refine go.1 [35] 60 _ _ _ _ ?_
    refine cl (ct_word tb q1 f2.2) ?_
    refine wb tb false (k := 10) (by decide) (by decide) (fun z => ?_) (fun z => ?_)
    · have z : iW B m (nx B m (nx B m f)) 10 = true := z
      have f3 := nx_gt (B := B) (iW_lt z)
      refine clG (ct_perhaps tb q1 f2.2 (a := a) (b := 11) (by omega) (by decide) rfl rfl _) (fun x τ hrr => ?_)
      obtain ⟨hi, r3, rfl, rfl, q3, e3⟩ := hrr
      cases hn3 : isNm B m (nx B m (nx B m (nx B m f))) a 11 with
      | false =>
        rw [hn3] at q3
        exact W35 _ hi (nx B m (nx B m (nx B m f))) r3 f3.2 (by rw [← hres]; exact ((bif_t z).trans (bif_f hn3)).symm) q3
      | true =>
        rw [hn3] at q3
        have e3 := e3 (isNm_t hn3).1
        subst e3
        exact H35 _ _ r3 (isNm_t hn3).2.1 (isNm_t hn3).2.2 (nx_le f3.2).2 q3 (by rw [← hres]; exact ((bif_t z).trans (bif_t hn3)).symm)
    · have z : iW B m (nx B m (nx B m f)) 10 = false := z
      refine cl (ct_perhaps_no _ _ _) ?_
      exact H35 a (nx B m (nx B m f)) r1 (Nat.le_refl a) v1 f2.2 q1 (by rw [← hres]; exact (bif_f z).symm)
