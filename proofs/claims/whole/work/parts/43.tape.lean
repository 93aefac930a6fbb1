/-! THE TAPE AS NUMBERS: m bytes B -/
def iB (a b : Nat) (B : Nat → Nat) (m j : Nat) : Bool := decide (j < m) && (decide (a ≤ B j) && decide (B j ≤ b))
abbrev ltr (B : Nat → Nat) (m j : Nat) : Bool := iB 97 122 B m j
abbrev dgt (B : Nat → Nat) (m j : Nat) : Bool := iB 48 57 B m j
theorem iB_t {a b : Nat} {B : Nat → Nat} {m j : Nat} : iB a b B m j = true ↔ j < m ∧ a ≤ B j ∧ B j ≤ b := by
  unfold iB
  rw [Bool.and_eq_true_iff, Bool.and_eq_true_iff, decide_eq_true_iff, decide_eq_true_iff, decide_eq_true_iff]
theorem iB_f {a b : Nat} {B : Nat → Nat} {m j : Nat} : iB a b B m j = false ↔ ¬ (j < m ∧ a ≤ B j ∧ B j ≤ b) := by
  rw [← iB_t, Bool.not_eq_true]
theorem firstN_ge (P : Nat → Bool) : ∀ d j, j ≤ firstN P d j
  | 0, j => Nat.le_refl _
  | d + 1, j => by
    unfold firstN
    split
    · omega
    · have := firstN_ge P d (j + 1); omega
theorem firstN_hit {P : Nat → Bool} : ∀ d j, firstN P d j < j + d → P (firstN P d j) = true
  | 0, j, h => absurd h (by show ¬ j < j + 0; omega)
  | d + 1, j, h => by
    unfold firstN at h ⊢
    split
    · assumption
    · rename_i hq
      rw [if_neg hq] at h
      exact firstN_hit d (j + 1) (by omega)
theorem firstN_s {P : Nat → Bool} {d j : Nat} (h : P j = false) : firstN P (d + 1) j = firstN P d (j + 1) := by
  rw [firstN, if_neg (by rw [h]; decide)]
theorem firstN_h {P : Nat → Bool} {d j : Nat} (h : P j = true) : firstN P (d + 1) j = j := by
  rw [firstN, if_pos h]
def skp (B : Nat → Nat) (m p : Nat) : Nat := firstN (fun j => !iB 32 32 B m j) (m - p) p
def rnF (a b : Nat) (B : Nat → Nat) (m p : Nat) : Nat := firstN (fun j => !iB a b B m j) (m - p) p
def tE (B : Nat → Nat) (m f : Nat) : Nat := if ltr B m f = true then rnF 97 122 B m f else if dgt B m f = true then rnF 48 57 B m f else if f < m then f + 1 else f
def srt (B : Nat → Nat) (m f : Nat) : Nat := if ¬ f < m then 0 else if ltr B m f = true then 1 else if dgt B m f = true then 2 else if B f = 59 then 3 else 4
def vN (B : Nat → Nat) (f : Nat) : Nat → Nat
  | 0 => 0
  | k + 1 => if 999 < vN B f k then vN B f k else 10 * vN B f k + (B (f + k) - 48)
def val (B : Nat → Nat) (m f : Nat) : Nat := vN B f (tE B m f - f)
def nx (B : Nat → Nat) (m f : Nat) : Nat := skp B m (tE B m f)
def isNm (B : Nat → Nat) (m f a b : Nat) : Bool := dgt B m f && (decide (a ≤ val B m f) && decide (val B m f ≤ b))
def iW (B : Nat → Nat) (m f k : Nat) : Bool := ltr B m f && (decide (tE B m f - f = sLen.getD k 0) && all1 (fun i => decide (nI (B (f + i)) = (sByt.getD k []).getD i 0)) (sLen.getD k 0))
theorem rnF_le {a b : Nat} {B : Nat → Nat} {m p : Nat} (h : p ≤ m) : p ≤ rnF a b B m p ∧ rnF a b B m p ≤ m := by
  have h1 := firstN_ge (fun j => !iB a b B m j) (m - p) p
  have h2 := firstN_le (fun j => !iB a b B m j) (m - p) p
  unfold rnF
  omega
theorem rnF_gt {a b : Nat} {B : Nat → Nat} {m p : Nat} (h : iB a b B m p = true) : p < rnF a b B m p ∧ rnF a b B m p ≤ m := by
  have hm := (iB_t.mp h).1
  obtain ⟨d, hd⟩ : ∃ d, m - p = d + 1 := ⟨m - p - 1, by omega⟩
  have h2 := firstN_le (fun j => !iB a b B m j) (m - p) p
  unfold rnF
  rw [hd] at h2 ⊢
  rw [firstN_s (by rw [h]; rfl)] at h2 ⊢
  have h1 := firstN_ge (fun j => !iB a b B m j) d (p + 1)
  omega
theorem rnF_in {a b : Nat} {B : Nat → Nat} {m p i : Nat} (h1 : p ≤ i) (h2 : i < rnF a b B m p) : iB a b B m i = true := by
  have := firstN_true (P := fun j => !iB a b B m j) (m - p) p i h1 h2
  have h : (!iB a b B m i) = false := this
  cases hb : iB a b B m i with
  | true => rfl
  | false => rw [hb] at h; exact absurd h (by decide)
theorem skp_le {B : Nat → Nat} {m p : Nat} (h : p ≤ m) : p ≤ skp B m p ∧ skp B m p ≤ m := rnF_le h
theorem tE_gt {B : Nat → Nat} {m f : Nat} (h : f < m) : f < tE B m f ∧ tE B m f ≤ m := by
  unfold tE
  split
  · exact rnF_gt (by assumption)
  · split
    · exact rnF_gt (by assumption)
    · first | (rw [if_pos h]; omega) | omega
theorem tE_le {B : Nat → Nat} {m f : Nat} (h : f ≤ m) : f ≤ tE B m f ∧ tE B m f ≤ m := by
  by_cases q : f < m
  · have := tE_gt (B := B) q; omega
  · unfold tE
    rw [if_neg (by rw [iB_t]; omega), if_neg (by rw [iB_t]; omega), if_neg q]
    omega
theorem nx_le {B : Nat → Nat} {m f : Nat} (h : f ≤ m) : f ≤ nx B m f ∧ nx B m f ≤ m := by
  have h1 := tE_le (B := B) h
  have h2 := skp_le (B := B) h1.2
  unfold nx
  omega
theorem nx_gt {B : Nat → Nat} {m f : Nat} (h : f < m) : f < nx B m f ∧ nx B m f ≤ m := by
  have h1 := tE_gt (B := B) h
  have h2 := skp_le (B := B) h1.2
  unfold nx
  omega
theorem tE_l {B : Nat → Nat} {m f : Nat} (h : ltr B m f = true) : tE B m f = rnF 97 122 B m f := by unfold tE; rw [if_pos h]
theorem tE_d {B : Nat → Nat} {m f : Nat} (h : dgt B m f = true) : ltr B m f = false ∧ tE B m f = rnF 48 57 B m f := by
  have hl : ltr B m f = false := by
    rw [iB_f]
    rw [iB_t] at h
    omega
  refine ⟨hl, ?_⟩
  unfold tE
  rw [if_neg (by rw [hl]; decide), if_pos h]
theorem srt_1 {B : Nat → Nat} {m f : Nat} : srt B m f = 1 ↔ ltr B m f = true := by
  unfold srt
  constructor
  · intro h
    split at h
    · exact absurd h (by decide)
    · split at h
      · assumption
      · split at h
        · exact absurd h (by decide)
        · split at h <;> exact absurd h (by decide)
  · intro h
    have := (iB_t.mp h).1
    rw [if_neg (by omega), if_pos h]
theorem srt_2 {B : Nat → Nat} {m f : Nat} : srt B m f = 2 ↔ dgt B m f = true := by
  unfold srt
  constructor
  · intro h
    split at h
    · exact absurd h (by decide)
    · split at h
      · exact absurd h (by decide)
      · split at h
        · assumption
        · split at h <;> exact absurd h (by decide)
  · intro h
    have := (iB_t.mp h).1
    rw [if_neg (by omega), if_neg (by rw [(tE_d h).1]; decide), if_pos h]
theorem srt_0 {B : Nat → Nat} {m f : Nat} : srt B m f = 0 ↔ ¬ f < m := by
  unfold srt
  constructor
  · intro h
    split at h
    · assumption
    · split at h
      · exact absurd h (by decide)
      · split at h
        · exact absurd h (by decide)
        · split at h <;> exact absurd h (by decide)
  · intro h
    rw [if_pos h]
theorem srt_3 {B : Nat → Nat} {m f : Nat} : srt B m f = 3 ↔ f < m ∧ B f = 59 := by
  constructor
  · intro h
    unfold srt at h
    split at h
    · exact absurd h (by decide)
    · split at h
      · exact absurd h (by decide)
      · split at h
        · exact absurd h (by decide)
        · split at h
          · exact ⟨by omega, by assumption⟩
          · exact absurd h (by decide)
  · intro ⟨h, e⟩
    unfold srt
    rw [if_neg (by omega), if_neg (by rw [iB_t]; omega), if_neg (by rw [iB_t]; omega), if_pos e]
theorem srt_lt (B : Nat → Nat) (m f : Nat) : srt B m f < 5 := by
  unfold srt
  split
  · decide
  · split
    · decide
    · split
      · decide
      · split <;> decide
theorem vN_stay {B : Nat → Nat} {f k : Nat} (h : 999 < vN B f k) : ∀ d, vN B f (k + d) = vN B f k
  | 0 => rfl
  | d + 1 => by
    have := vN_stay h d
    show (if 999 < vN B f (k + d) then vN B f (k + d) else _) = _
    rw [this, if_pos h]
theorem vN_le {B : Nat → Nat} {f : Nat} : ∀ k, (∀ i, i < k → B (f + i) ≤ 57) → vN B f k ≤ 9999
  | 0, _ => Nat.zero_le _
  | k + 1, h => by
    have := vN_le k (fun i hi => h i (by omega))
    have := h k (by omega)
    unfold vN
    split <;> omega
theorem val_le {B : Nat → Nat} {m f : Nat} (h : dgt B m f = true) : val B m f ≤ 9999 := by
  unfold val
  refine vN_le _ (fun i hi => ?_)
  have := (tE_d h).2
  exact (iB_t.mp (rnF_in (a := 48) (b := 57) (B := B) (m := m) (p := f) (i := f + i) (by omega) (by omega))).2.2
theorem isNm_t {B : Nat → Nat} {m f a b : Nat} (h : isNm B m f a b = true) : dgt B m f = true ∧ a ≤ val B m f ∧ val B m f ≤ b := by
  obtain ⟨h1, h2⟩ := Bool.and_eq_true_iff.mp h
  obtain ⟨h2, h3⟩ := Bool.and_eq_true_iff.mp h2
  exact ⟨h1, of_decide_eq_true h2, of_decide_eq_true h3⟩
theorem isNm_lt {B : Nat → Nat} {m f a b : Nat} (h : isNm B m f a b = true) : f < m := (iB_t.mp (isNm_t h).1).1
theorem iW_lt {B : Nat → Nat} {m f k : Nat} (h : iW B m f k = true) : f < m := (iB_t.mp (Bool.and_eq_true_iff.mp h).1).1
/-! the class's tape: row 33 the bytes; 32: 1 length, 2 sort, 3 begin, 4 end, 5 value -/
def TB (σ : Sg) (B : Nat → Nat) (m : Nat) : Prop := m ≤ 120 ∧ ∀ k, k < m → σ 33 k = nI (B k) ∧ B k < 256
def TSr (B : Nat → Nat) (m : Nat) (r : Nat → Int32) (f : Nat) : Prop := r 1 = nI m ∧ r 2 = nI (srt B m f) ∧ r 3 = nI f ∧ r 4 = nI (tE B m f) ∧ (dgt B m f = true → r 5 = nI (val B m f))
theorem up2_up2 (σ : Sg) (i k : Nat) (x y : Int32) : up2 (up2 σ i k x) i k y = up2 σ i k y := by
  show upr (upr σ i (upd (σ i) k x)) i (upd (upr σ i (upd (σ i) k x) i) k y) = _
  rw [upr_in, upr_upr]
  congr 1
  funext j
  unfold upd
  split <;> rfl
theorem up2_self {σ : Sg} {i k : Nat} {x : Int32} (h : σ i k = x) : up2 σ i k x = σ := by
  show upr σ i (upd (σ i) k x) = σ
  rw [← h, upd_same, upr_self]
theorem up2_at (σ : Sg) (i k : Nat) (x : Int32) : up2 σ i k x i k = x := by
  show upr σ i (upd (σ i) k x) i k = x
  rw [upr_in, upd_eq]
theorem up2_ne {σ : Sg} {i k j : Nat} {x : Int32} (h : j ≠ k) : up2 σ i k x i j = σ i j := by
  show upr σ i (upd (σ i) k x) i j = _
  rw [upr_in, upd_ne h]
theorem U2 (σ : Sg) (i : Nat) (g : Nat → Int32) (k : Nat) (x : Int32) : up2 (upr σ i g) i k x = upr σ i (upd g k x) := by
  show upr (upr σ i g) i (upd (upr σ i g i) k x) = _
  rw [upr_in, upr_upr]
theorem ct_btw {B : Nat → Nat} {m at' a b : Nat} {τ : Sg} (tb : TB τ B m) (e1 : τ 32 1 = nI m) (ha : at' < 1000) (h1 : a < 256) (h2 : b < 256) {av lo hi : Int32} (eA : av = nI at') (el : lo = nI a) (eh : hi = nI b) : Ct mX3_isBetween [.ref 32, .int av, .int lo, .int hi] τ (Ex (some (.int (zb (iB a b B m at')))) τ) := by
  subst eA; subst el; subst eh
  have hm := tb.1
  refine Ct.of (by decide +kernel) zX3_isBetween (Nat.le_of_ble_eq_true rfl) (by decide) (fun X go => ?_)
  refine go.1 [] 100 _ _ _ _ ?_
  have no : iB a b B m at' = false → bz 0 ∧ Ex (some (.int (zb (iB a b B m at')))) τ (some (.int 0)) τ := fun h => ⟨Or.inl rfl, by rw [h]; rfl, rfl⟩
  refine br_f (nI_pos (by omega)) ?_
  refine And.intro (fun (q : τ 32 1 ≤ nI at') => ?_) (fun (q : ¬ τ 32 1 ≤ nI at') => ?_)
  · rw [e1, nI_leI (by omega) (by omega)] at q
    exact no (iB_f.mpr (by omega))
  · rw [e1, nI_leI (by omega) (by omega)] at q
    obtain ⟨eb, hb⟩ := tb.2 at' (by omega)
    refine Exists.intro (at') (And.intro ⟨rfl, by omega, by omega⟩ ?_)
    refine And.intro (fun (q1 : τ 33 at' < nI a) => ?_) (fun (q1 : ¬ τ 33 at' < nI a) => ?_)
    · rw [eb, nI_ltI (by omega) (by omega)] at q1
      exact no (iB_f.mpr (by omega))
    · rw [eb, nI_ltI (by omega) (by omega)] at q1
      refine Exists.intro (at') (And.intro ⟨rfl, by omega, by omega⟩ ?_)
      refine And.intro (fun (q2 : nI b < τ 33 at') => ?_) (fun (q2 : ¬ nI b < τ 33 at') => ?_)
      · rw [eb, nI_ltI (by omega) (by omega)] at q2
        exact no (iB_f.mpr (by omega))
      · rw [eb, nI_ltI (by omega) (by omega)] at q2
        refine And.intro (Or.inr rfl) (And.intro ?_ rfl)
        rw [iB_t.mpr (by omega)]
        rfl
theorem ct_run {B : Nat → Nat} {m e a b : Nat} {τ : Sg} (tb : TB τ B m) (e1 : τ 32 1 = nI m) (e4 : τ 32 4 = nI e) (he : e ≤ m) (h1 : a < 256) (h2 : b < 256) {lo hi : Int32} (el : lo = nI a) (eh : hi = nI b) : Ct mX3_readRun [.ref 32, .int lo, .int hi] τ (Ex none (up2 τ 32 4 (nI (rnF a b B m e)))) := by
  have hm := tb.1
  generalize hR : rnF a b B m e = R
  refine Ct.of (by decide +kernel) zX3_readRun (Nat.le_of_ble_eq_true rfl) (by decide) (fun X go => ?_)
  have L : ∀ d e, e + d = m → firstN (fun j => !iB a b B m j) d e = R → X 0 [(0, .ref 32), (1, .int lo), (2, .int hi)] [] (up2 τ 32 4 (nI e)) := by
    intro d
    induction d with
    | zero =>
      intro e hd hf
      have hf : e = R := hf
      subst hf
      refine go.1 [0] 40 _ _ _ _ ?_
      refine br_t (show τ 32 1 ≤ nI e from by rw [e1]; exact nI_le (by omega) (by omega)) ?_
      exact And.intro rfl rfl
    | succ d ih =>
      intro e hd hf
      have cb := ct_btw (τ := up2 τ 32 4 (nI e)) (at' := e) tb (show up2 τ 32 4 (nI e) 32 1 = nI m from e1) (by omega) h1 h2 rfl el eh
      refine go.1 [0] 40 _ _ _ _ ?_
      refine br_f (show ¬ τ 32 1 ≤ nI e from by rw [e1]; exact nI_ge (by omega) (by omega)) ?_
      cases hb : iB a b B m e with
      | false =>
        rw [firstN_h (by rw [hb]; rfl)] at hf
        subst hf
        rw [hb] at cb
        refine cl cb ?_
        refine br_t (by decide) ?_
        exact And.intro rfl rfl
      | true =>
        rw [firstN_s (by rw [hb]; rfl)] at hf
        rw [hb] at cb
        refine cl cb ?_
        refine br_f (by decide) ?_
        refine And.intro ⟨rfl, rfl⟩ ?_
        have ihk := ih (e + 1) (by omega) hf
        rw [nI_succ e, ← up2_up2 τ 32 4 (nI e)] at ihk
        exact ihk
  have L0 := L (m - e) e (by omega) hR
  rw [up2_self e4] at L0
  exact L0
theorem ct_value {B : Nat → Nat} {m f e : Nat} {τ : Sg} (tb : TB τ B m) (e3 : τ 32 3 = nI f) (e4 : τ 32 4 = nI e) (hf : f ≤ e) (he : e ≤ m) (hd : ∀ i, f ≤ i → i < e → 48 ≤ B i ∧ B i ≤ 57) : Ct mX3_valueOfRun [.ref 32] τ (Ex (some (.int (nI (vN B f (e - f))))) τ) := by
  have hm := tb.1
  refine Ct.of (by decide +kernel) zX3_valueOfRun (Nat.le_of_ble_eq_true rfl) (by decide) (fun X go => ?_)
  refine go.1 [7] 100 _ _ _ _ ?_
  have L : ∀ d k, k + d = e - f → X 7 [(0, .ref 32), (1, .int (nI (vN B f k))), (2, .int (nI (f + k)))] [] τ := by
    intro d
    induction d with
    | zero =>
      intro k hk
      have hk : k = e - f := by omega
      subst hk
      refine go.1 [7] 40 _ _ _ _ ?_
      refine br_t (show τ 32 4 ≤ nI (f + (e - f)) from by rw [e4]; exact nI_le (by omega) (by omega)) ?_
      exact And.intro rfl rfl
    | succ d ih =>
      intro k hk
      have hv := vN_le (B := B) (f := f) k (fun i hi => (hd (f + i) (by omega) (by omega)).2)
      obtain ⟨eb, -⟩ := tb.2 (f + k) (by omega)
      obtain ⟨b1, b2⟩ := hd (f + k) (by omega) (by omega)
      refine go.1 [7] 40 _ _ _ _ ?_
      refine br_f (show ¬ τ 32 4 ≤ nI (f + k) from by rw [e4]; exact nI_ge (by omega) (by omega)) ?_
      by_cases q : 999 < vN B f k
      · refine br_t (show nI 999 < nI (vN B f k) from nI_lt q (by omega)) ?_
        refine And.intro ?_ rfl
        rw [show e - f = k + (d + 1) by omega, vN_stay q]
      · refine br_f (show ¬ nI 999 < nI (vN B f k) from nI_nlt (by omega) (by omega)) ?_
        refine Exists.intro (f + k) (And.intro ⟨rfl, by omega, by omega⟩ ?_)
        have ihk := ih (k + 1) (by omega)
        rw [show nI (vN B f (k + 1)) = nI (vN B f k) * 10 + (τ 33 (f + k) - 48) from by
          rw [eb, show (48 : Int32) = nI 48 from rfl, pk_sub b1, show (10 : Int32) = nI 10 from rfl, pk_mul, nI_add, vN, if_neg q, Nat.mul_comm 10], show nI (f + (k + 1)) = nI (f + k) + 1 from nI_succ _] at ihk
        exact ihk
  have L0 := L (e - f) 0 (by omega)
  rw [Nat.add_zero, ← e3] at L0
  exact L0
theorem ct_on {B : Nat → Nat} {m e : Nat} {τ : Sg} (tb : TB τ B m) (e1 : τ 32 1 = nI m) (e4 : τ 32 4 = nI e) (he : e ≤ m) : Ct mX3_readOn [.ref 32] τ (fun x σ' => x = none ∧ ∃ r, σ' = upr τ 32 r ∧ TSr B m r (skp B m e)) := by
  have hm := tb.1
  have hle := skp_le (B := B) he
  generalize hF : skp B m e = f at hle ⊢
  refine Ct.of (by decide +kernel) zX3_readOn (Nat.le_of_ble_eq_true rfl) (by decide) (fun X go => ?_)
  refine go.1 [8] 100 _ _ _ _ ?_
  have tbg : ∀ g : Nat → Int32, TB (upr τ 32 g) B m := fun g => tb
  have E47 : ∀ g : Nat → Int32, g 1 = nI m → g 3 = nI f → X 47 [(0, .ref 32)] [] (upr τ 32 g) := by
    intro g g1 g3
    refine go.1 [] 90 _ _ _ _ ?_
    refine And.intro ⟨rfl, rfl⟩ ?_
    have U4 := U2 τ 32 g 4 (g 3)
    have a1 : upd g 4 (g 3) 1 = nI m := by rw [upd_ne (by decide)]; exact g1
    have a3 : upd g 4 (g 3) 3 = nI f := by rw [upd_ne (by decide)]; exact g3
    by_cases hfm : f < m
    · refine br_t (show g 3 < g 1 from by rw [g1, g3]; exact nI_lt hfm (by omega)) ?_
      have cl1 := ct_btw (τ := up2 (upr τ 32 g) 32 4 (g 3)) (at' := f) (a := 97) (b := 122) (av := g 3) tb (show g 1 = nI m from g1) (by omega) (by decide) (by decide) g3 rfl rfl
      cases hl : ltr B m f with
      | true =>
        rw [show iB 97 122 B m f = true from hl] at cl1
        refine cl cl1 ?_
        refine br_f (by decide) ?_
        refine And.intro ⟨rfl, rfl⟩ ?_
        have cr := ct_run (τ := up2 (up2 (upr τ 32 g) 32 4 (g 3)) 32 2 1) (e := f) (a := 97) (b := 122) (B := B) (m := m) tb (show g 1 = nI m from g1) (show g 3 = nI f from g3) hle.2 (by decide) (by decide) rfl rfl
        refine cl cr ?_
        refine And.intro rfl ⟨upd (upd (upd g 4 (g 3)) 2 1) 4 (nI (rnF 97 122 B m f)), by first | (rw [U2, U2, U2]; done) | (rw [U2, upr_upr, upr_upr]; rfl) | (rw [U2, upr_upr]; rfl), ?_⟩
        refine ⟨g1, ?_, g3, ?_, fun hd => ?_⟩
        · rw [srt_1.mpr hl]; rfl
        · rw [tE_l hl, upd_eq]
        · rw [(tE_d hd).1] at hl; exact absurd hl (by decide)
      | false =>
        rw [show iB 97 122 B m f = false from hl] at cl1
        refine cl cl1 ?_
        refine br_t (by decide) ?_
        have cl2 := ct_btw (τ := up2 (upr τ 32 g) 32 4 (g 3)) (at' := f) (a := 48) (b := 57) (av := g 3) tb (show g 1 = nI m from g1) (by omega) (by decide) (by decide) g3 rfl rfl
        cases hd : dgt B m f with
        | true =>
          rw [show iB 48 57 B m f = true from hd] at cl2
          refine cl cl2 ?_
          refine br_f (by decide) ?_
          refine And.intro ⟨rfl, rfl⟩ ?_
          have cr := ct_run (τ := up2 (up2 (upr τ 32 g) 32 4 (g 3)) 32 2 2) (e := f) (a := 48) (b := 57) (B := B) (m := m) tb (show g 1 = nI m from g1) (show g 3 = nI f from g3) hle.2 (by decide) (by decide) rfl rfl
          refine cl cr ?_
          have hgt := rnF_gt hd
          have cv := ct_value (τ := up2 (up2 (up2 (upr τ 32 g) 32 4 (g 3)) 32 2 2) 32 4 (nI (rnF 48 57 B m f))) (B := B) (m := m) (f := f) (e := rnF 48 57 B m f) tb (show g 3 = nI f from g3) (up2_at _ _ _ _) (by omega) hgt.2 (fun i h1 h2 => (iB_t.mp (rnF_in h1 h2)).2)
          refine cl cv ?_
          refine And.intro ⟨rfl, rfl⟩ ?_
          refine And.intro rfl ⟨upd (upd (upd (upd g 4 (g 3)) 2 2) 4 (nI (rnF 48 57 B m f))) 5 (nI (vN B f (rnF 48 57 B m f - f))), by first | (rw [U2, U2, U2, U2]; done) | (rw [U2, upr_upr, upr_upr, upr_upr]; rfl) | (rw [U2, upr_upr, upr_upr]; rfl), ?_⟩
          refine ⟨g1, ?_, g3, ?_, fun _ => ?_⟩
          · rw [srt_2.mpr hd]; rfl
          · rw [(tE_d hd).2]; rfl
          · unfold val; rw [(tE_d hd).2]; rfl
        | false =>
          rw [show iB 48 57 B m f = false from hd] at cl2
          refine cl cl2 ?_
          refine br_t (by decide) ?_
          have ht : tE B m f = f + 1 := by
            unfold tE
            rw [if_neg (by rw [hl]; decide), if_neg (by rw [hd]; decide), if_pos hfm]
          have cl3 := ct_btw (τ := up2 (upr τ 32 g) 32 4 (g 3)) (at' := f) (a := 59) (b := 59) (av := g 3) tb (show g 1 = nI m from g1) (by omega) (by decide) (by decide) g3 rfl rfl
          cases hs : iB 59 59 B m f with
          | true =>
            rw [hs] at cl3
            refine cl cl3 ?_
            refine br_f (by decide) ?_
            refine And.intro ⟨rfl, rfl⟩ ?_
            refine And.intro ⟨rfl, rfl⟩ ?_
            refine And.intro rfl ⟨upd (upd (upd g 4 (g 3)) 2 3) 4 (g 3 + 1), by first | (rw [U2, U2, U2]; done) | (rw [U2, U2, U2]; rfl) | (rw [U2, upr_upr, upr_upr]; rfl) | (rw [U2, upr_upr]; rfl), ?_⟩
            refine ⟨g1, ?_, g3, ?_, fun z => ?_⟩
            · rw [srt_3.mpr ⟨hfm, by have := iB_t.mp hs; omega⟩]; rfl
            · rw [ht, nI_succ, ← g3]; rfl
            · rw [hd] at z; exact absurd z (by decide)
          | false =>
            rw [hs] at cl3
            refine cl cl3 ?_
            refine br_t (by decide) ?_
            refine And.intro ⟨rfl, rfl⟩ ?_
            refine And.intro ⟨rfl, rfl⟩ ?_
            refine And.intro rfl ⟨upd (upd (upd g 4 (g 3)) 2 4) 4 (g 3 + 1), by first | (rw [U2, U2, U2]; done) | (rw [U2, U2, U2]; rfl) | (rw [U2, upr_upr, upr_upr]; rfl) | (rw [U2, upr_upr]; rfl), ?_⟩
            refine ⟨g1, ?_, g3, ?_, fun z => ?_⟩
            · have h4 : srt B m f = 4 := by
                unfold srt
                rw [if_neg (by omega), if_neg (by rw [hl]; decide), if_neg (by rw [hd]; decide), if_neg (fun z => by rw [iB_f] at hs; omega)]
              rw [h4]; rfl
            · rw [ht, nI_succ, ← g3]; rfl
            · rw [hd] at z; exact absurd z (by decide)
    · refine br_f (show ¬ g 3 < g 1 from by rw [g1, g3]; exact nI_nlt (by omega) (by omega)) ?_
      refine And.intro ⟨rfl, rfl⟩ ?_
      refine And.intro rfl ⟨upd (upd g 4 (g 3)) 2 0, by first | (rw [U2, U2]; done) | (rw [U2, upr_upr]; rfl), ?_⟩
      refine ⟨g1, ?_, g3, ?_, fun hd => absurd (iB_t.mp hd).1 hfm⟩
      · rw [srt_0.mpr hfm]; rfl
      · have ht : tE B m f = f := by
          unfold tE
          rw [if_neg (by rw [iB_t]; omega), if_neg (by rw [iB_t]; omega), if_neg hfm]
        rw [ht]
        exact g3
  have L : ∀ d b, b + d = m → firstN (fun j => !iB 32 32 B m j) d b = f → ∀ g : Nat → Int32, g 1 = nI m → g 3 = nI b → X 8 [(0, .ref 32)] [] (upr τ 32 g) := by
    intro d
    induction d with
    | zero =>
      intro b hb hf g g1 g3
      have hf : b = f := hf
      subst hf
      refine go.1 [8, 47] 60 _ _ _ _ ?_
      refine br_t (show g 1 ≤ g 3 from by rw [g1, g3]; exact nI_le (by omega) (by omega)) ?_
      exact E47 g g1 g3
    | succ d ih =>
      intro b hb hf g g1 g3
      have cb := ct_btw (τ := upr τ 32 g) (at' := b) (a := 32) (b := 32) (av := g 3) tb (show g 1 = nI m from g1) (by omega) (by decide) (by decide) g3 rfl rfl
      refine go.1 [8, 47] 60 _ _ _ _ ?_
      refine br_f (show ¬ g 1 ≤ g 3 from by rw [g1, g3]; exact nI_ge (by omega) (by omega)) ?_
      cases hq : iB 32 32 B m b with
      | false =>
        rw [firstN_h (by rw [hq]; rfl)] at hf
        subst hf
        rw [hq] at cb
        refine cl cb ?_
        refine br_t (by decide) ?_
        exact E47 g g1 g3
      | true =>
        rw [firstN_s (by rw [hq]; rfl)] at hf
        rw [hq] at cb
        refine cl cb ?_
        refine br_f (by decide) ?_
        refine And.intro ⟨rfl, rfl⟩ ?_
        have ihk := ih (b + 1) (by omega) hf (upd g 3 (g 3 + 1)) (by rw [upd_ne (by decide)]; exact g1) (by rw [upd_eq, g3, nI_succ])
        rw [← U2] at ihk
        exact ihk
  refine And.intro ⟨rfl, rfl⟩ ?_
  exact L (m - e) e (by omega) hF (upd (τ 32) 3 (τ 32 4)) (by rw [upd_ne (by decide)]; exact e1) (by rw [upd_eq]; exact e4)
theorem ct_isNum {B : Nat → Nat} {m f a b : Nat} {τ : Sg} (ts : TSr B m (τ 32) f) (ha : a < 10000) (hb : b < 10000) {lo hi : Int32} (el : lo = nI a) (eh : hi = nI b) : Ct mX3_isNumber [.ref 32, .int lo, .int hi] τ (Ex (some (.int (zb (isNm B m f a b)))) τ) := by
  subst el; subst eh
  obtain ⟨e1, e2, e3, e4, e5⟩ := ts
  have no : isNm B m f a b = false → bz 0 ∧ Ex (some (.int (zb (isNm B m f a b)))) τ (some (.int 0)) τ := fun h => ⟨Or.inl rfl, by rw [h]; rfl, rfl⟩
  refine Ct.of (by decide +kernel) zX3_isNumber (Nat.le_of_ble_eq_true rfl) (by decide) (fun X go => ?_)
  refine go.1 [] 100 _ _ _ _ ?_
  have := srt_lt B m f
  cases hd : dgt B m f with
  | false =>
    refine br_f (show ¬ τ 32 2 = nI 2 from by rw [e2]; intro z; rw [srt_2.mp ((nI_eq (by omega) (by decide)).mp z)] at hd; exact absurd hd (by decide)) ?_
    exact no (by unfold isNm; rw [hd]; rfl)
  | true =>
    have hv := val_le hd
    have e5 := e5 hd
    refine br_t (show τ 32 2 = nI 2 from by rw [e2, srt_2.mpr hd]) ?_
    refine And.intro (fun (q : τ 32 5 < nI a) => ?_) (fun (q : ¬ τ 32 5 < nI a) => ?_)
    · rw [e5, nI_ltI (by omega) (by omega)] at q
      exact no (by unfold isNm; rw [decide_eq_false (show ¬ a ≤ val B m f by omega), Bool.false_and, Bool.and_false])
    · rw [e5, nI_ltI (by omega) (by omega)] at q
      refine And.intro (fun (q2 : nI b < τ 32 5) => ?_) (fun (q2 : ¬ nI b < τ 32 5) => ?_)
      · rw [e5, nI_ltI (by omega) (by omega)] at q2
        exact no (by unfold isNm; rw [decide_eq_false (show ¬ val B m f ≤ b by omega), Bool.and_false, Bool.and_false])
      · rw [e5, nI_ltI (by omega) (by omega)] at q2
        refine And.intro (Or.inr rfl) (And.intro ?_ rfl)
        rw [show isNm B m f a b = true from by unfold isNm; rw [hd, decide_eq_true (show a ≤ val B m f by omega), decide_eq_true (show val B m f ≤ b by omega)]; rfl]
        rfl
theorem bifT {k s : Nat} {P : Prop} (hk : k < 15) (hs : Nat.ble s 8 = true) (h : P) : bif Nat.ble 60 (60 + k) && Nat.ble (60 + k) 74 && Nat.ble s 8 then P else False := by
  rw [Nat.ble_eq_true_of_le (show 60 ≤ 60 + k by omega), Nat.ble_eq_true_of_le (show 60 + k ≤ 74 by omega), hs]
  exact h
theorem ct_isWord {B : Nat → Nat} {m f k : Nat} {τ : Sg} (tb : TB τ B m) (ts : TSr B m (τ 32) f) (hf : f ≤ m) (hk : k < 15) : Ct mX3_isWord [.ref 32, .ref (60 + k)] τ (Ex (some (.int (zb (iW B m f k)))) τ) := by
  obtain ⟨e1, e2, e3, e4, e5⟩ := ts
  have hm := tb.1
  have hle := tE_le (B := B) hf
  have hs6 := s_len k hk
  have no : iW B m f k = false → bz 0 ∧ Ex (some (.int (zb (iW B m f k)))) τ (some (.int 0)) τ := fun h => ⟨Or.inl rfl, by rw [h]; rfl, rfl⟩
  refine Ct.of (by decide +kernel) zX3_isWord (Nat.le_of_ble_eq_true rfl) (by decide) (fun X go => ?_)
  refine go.1 [39] 100 _ _ _ _ ?_
  have := srt_lt B m f
  cases hl : ltr B m f with
  | false =>
    refine br_f (show ¬ τ 32 2 = nI 1 from by rw [e2]; intro z; rw [srt_1.mp ((nI_eq (by omega) (by decide)).mp z)] at hl; exact absurd hl (by decide)) ?_
    exact no (by unfold iW; rw [hl]; rfl)
  | true =>
    refine br_t (show τ 32 2 = nI 1 from by rw [e2, srt_1.mpr hl]) ?_
    refine br_f (show ¬ τ 32 1 < τ 32 4 from by rw [e1, e4]; exact nI_nlt (by omega) (by omega)) ?_
    refine bifT hk rfl ?_
    refine cl (ct_len hk τ) ?_
    refine And.intro (fun (q : nI (sLen.getD k 0) = τ 32 4 - τ 32 3) => ?_) (fun (q : ¬ nI (sLen.getD k 0) = τ 32 4 - τ 32 3) => ?_)
    · rw [e3, e4, pk_sub hle.1, nI_eq (by omega) (by omega)] at q
      have L : ∀ d j, j + d = sLen.getD k 0 → (∀ i, i < j → decide (nI (B (f + i)) = (sByt.getD k []).getD i 0) = true) → X 39 [(0, .ref 32), (1, .ref (60 + k)), (2, .int (nI j))] [] τ := by
        intro d
        induction d with
        | zero =>
          intro j hj hg
          have hj : j = sLen.getD k 0 := by omega
          refine go.1 [39] 40 _ _ _ _ ?_
          refine bifT hk rfl ?_
          refine cl (ct_len hk τ) ?_
          refine br_t (show nI (sLen.getD k 0) ≤ nI j from nI_le (by omega) (by omega)) ?_
          refine And.intro (Or.inr rfl) (And.intro ?_ rfl)
          rw [show iW B m f k = true from by unfold iW; rw [hl, decide_eq_true q.symm, ← hj, all1_t hg]; rfl]
          rfl
        | succ d ih =>
          intro j hj hg
          obtain ⟨eb, -⟩ := tb.2 (f + j) (by omega)
          refine go.1 [39] 60 _ _ _ _ ?_
          refine bifT hk rfl ?_
          refine cl (ct_len hk τ) ?_
          refine br_f (show ¬ nI (sLen.getD k 0) ≤ nI j from nI_ge (by omega) (by omega)) ?_
          refine Exists.intro (f + j) (And.intro ⟨show τ 32 3 + nI j = nI (f + j) by rw [e3, nI_add], by omega, by omega⟩ ?_)
          refine bifT hk rfl ?_
          refine cl (ct_chr hk (show j < sLen.getD k 0 by omega) τ) ?_
          refine And.intro (fun (z : τ 33 (f + j) = (sByt.getD k []).getD j 0) => ?_) (fun (z : ¬ τ 33 (f + j) = (sByt.getD k []).getD j 0) => ?_)
          · rw [eb] at z
            have ihk := ih (j + 1) (by omega) (fun i hi => by
              by_cases e : i = j
              · rw [e]; exact decide_eq_true z
              · exact hg i (by omega))
            rw [nI_succ j] at ihk
            exact ihk
          · rw [eb] at z
            exact no (by unfold iW; rw [all1_f (k := j) (by omega) (decide_eq_false z), Bool.and_false, Bool.and_false])
      exact L (sLen.getD k 0) 0 (by omega) (fun i hi => absurd hi (by omega))
    · rw [e3, e4, pk_sub hle.1, nI_eq (by omega) (by omega)] at q
      exact no (by unfold iW; rw [decide_eq_false (fun z => q z.symm), Bool.false_and, Bool.and_false])
def kix (k : Nat) : Nat := ([6, 0, 1, 2, 3, 4, 5] : List Nat).getD k 0
theorem kix_lt : ∀ k, k < 7 → kix k < 15 := by decide
theorem ct_wok {k : Nat} (hk : k < 7) (σ : Sg) : Ct mX3_wordOfKind [.int (nI k)] σ (Ex (some (.ref (60 + kix k))) σ) := by
  refine Ct.of (by decide +kernel) zX3_wordOfKind (Nat.le_of_ble_eq_true rfl) (by decide) (fun X go => ?_)
  refine go.1 [] 100 _ _ _ _ ?_
  have : k = 0 ∨ k = 1 ∨ k = 2 ∨ k = 3 ∨ k = 4 ∨ k = 5 ∨ k = 6 := by omega
  rcases this with rfl | rfl | rfl | rfl | rfl | rfl | rfl
  all_goals
    repeat (first | refine br_t (by decide) ?_ | refine br_f (by decide) ?_)
    exact And.intro rfl rfl
/-- the kind that a word is, 7: none -/
def kdW (B : Nat → Nat) (m f : Nat) : Nat := firstN (fun k => iW B m f (kix k)) 7 0
def kdI (r : Nat) : Int32 := if r < 7 then nI r else -1
theorem ct_kind {B : Nat → Nat} {m f : Nat} {τ : Sg} (tb : TB τ B m) (ts : TSr B m (τ 32) f) (hf : f ≤ m) : Ct mX3_kindOfWord [.ref 32] τ (Ex (some (.int (kdI (kdW B m f)))) τ) := by
  generalize hr : kdW B m f = r
  unfold kdW at hr
  refine Ct.of (by decide +kernel) zX3_kindOfWord (Nat.le_of_ble_eq_true rfl) (by decide) (fun X go => ?_)
  refine go.1 [2] 100 _ _ _ _ ?_
  have L : ∀ d k, k + d = 7 → firstN (fun k => iW B m f (kix k)) d k = r → X 2 [(0, .ref 32), (1, .int (nI k))] [] τ := by
    intro d
    induction d with
    | zero =>
      intro k hk hf
      have hf : k = r := hf
      subst hf
      refine go.1 [2] 40 _ _ _ _ ?_
      refine br_t (show nI 7 ≤ nI k from nI_le (by omega) (by omega)) ?_
      refine And.intro ?_ rfl
      unfold kdI
      rw [if_neg (by omega)]
    | succ d ih =>
      intro k hk hf
      have cw := ct_isWord tb ts (by assumption) (kix_lt k (by omega))
      refine go.1 [2] 40 _ _ _ _ ?_
      refine br_f (show ¬ nI 7 ≤ nI k from nI_ge (by omega) (by omega)) ?_
      refine cl (ct_wok (by omega) τ) ?_
      cases hq : iW B m f (kix k) with
      | true =>
        rw [firstN_h (P := fun k => iW B m f (kix k)) hq] at hf
        subst hf
        rw [hq] at cw
        refine cl cw ?_
        refine br_f (by decide) ?_
        refine And.intro ?_ rfl
        unfold kdI
        rw [if_pos (by omega)]
      | false =>
        rw [firstN_s (P := fun k => iW B m f (kix k)) hq] at hf
        rw [hq] at cw
        refine cl cw ?_
        refine br_t (by decide) ?_
        have ihk := ih (k + 1) (by omega) hf
        rw [nI_succ k] at ihk
        exact ihk
  exact L 7 0 (by omega) hr
