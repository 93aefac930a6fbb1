/-! WORDS AS NUMBERS to the base 32 -/
def cdN (D : Nat → Nat) : Nat → Nat
  | 0 => 0
  | k + 1 => 32 * cdN D k + D k
def hcN (D : Nat → Nat) : Nat → Nat
  | 0 => 0
  | k + 1 => if 36028797018963967 < hcN D k then hcN D k else 32 * hcN D k + D k
theorem hc_cd (D : Nat → Nat) : ∀ k, hcN D k = cdN D k ∨ (36028797018963967 < hcN D k ∧ 36028797018963967 < cdN D k)
  | 0 => Or.inl rfl
  | k + 1 => by
    unfold hcN cdN
    rcases hc_cd D k with h | ⟨h1, h2⟩
    · rw [h]
      split
      · rename_i q
        exact Or.inr ⟨q, by omega⟩
      · exact Or.inl rfl
    · rw [if_pos h1]
      exact Or.inr ⟨h1, by omega⟩
theorem hc_le {D : Nat → Nat} : ∀ k, (∀ i, i < k → D i ≤ 31) → hcN D k ≤ 32 * 36028797018963967 + 31
  | 0, _ => Nat.zero_le _
  | k + 1, h => by
    have := hc_le k (fun i hi => h i (by omega))
    have := h k (by omega)
    unfold hcN
    split <;> omega
theorem cd_inj {D E : Nat → Nat} : ∀ (k l : Nat), (∀ i, i < k → 1 ≤ D i ∧ D i ≤ 31) → (∀ i, i < l → 1 ≤ E i ∧ E i ≤ 31) → cdN D k = cdN E l → k = l ∧ ∀ i, i < k → D i = E i
  | 0, 0, _, _, _ => ⟨rfl, fun i hi => absurd hi (by omega)⟩
  | 0, l + 1, _, h2, e => by
    have := (h2 l (by omega)).1
    unfold cdN at e
    omega
  | k + 1, 0, h1, _, e => by
    have := (h1 k (by omega)).1
    unfold cdN at e
    omega
  | k + 1, l + 1, h1, h2, e => by
    have a := h1 k (by omega)
    have b := h2 l (by omega)
    have e : 32 * cdN D k + D k = 32 * cdN E l + E l := e
    obtain ⟨r1, r2⟩ := cd_inj k l (fun i hi => h1 i (by omega)) (fun i hi => h2 i (by omega)) (by omega)
    subst r1
    refine ⟨rfl, fun i hi => ?_⟩
    by_cases q : i = k
    · subst q; omega
    · exact r2 i (by omega)
theorem cd_cong {D E : Nat → Nat} : ∀ k, (∀ i, i < k → D i = E i) → cdN D k = cdN E k
  | 0, _ => rfl
  | k + 1, h => by
    unfold cdN
    rw [cd_cong k (fun i hi => h i (by omega)), h k (by omega)]
def wcN (k : Nat) : Nat := ([150636933, 299397, 645959844, 395097, 2500036, 109221477, 20579724, 52, 7847059, 748267155, 655, 1605, 20186245, 20142, 654910919] : List Nat).getD k 0
def sD (k i : Nat) : Nat := ((sByt.getD k []).getD i 0).toNatClampNeg - 96
theorem wc_ok : ∀ k, k < 15 → wcN k = cdN (sD k) (sLen.getD k 0) ∧ 0 < wcN k ∧ wcN k < 36028797018963967 := by decide +kernel
theorem sD_ok : ∀ k, k < 15 → ∀ i, i < sLen.getD k 0 → (1 ≤ sD k i ∧ sD k i ≤ 31) ∧ (sByt.getD k []).getD i 0 = nI (sD k i + 96) := by decide +kernel
/-- the word at f as a number -/
def wdN (B : Nat → Nat) (m f : Nat) : Nat := hcN (fun i => B (f + i) - 96) (tE B m f - f)
def wdV (B : Nat → Nat) (m f : Nat) (w : Bool) : Int64 := bif !w && ltr B m f then lN (wdN B m f) else 0
theorem lt_run {B : Nat → Nat} {m f i : Nat} (h : ltr B m f = true) (hi : i < tE B m f - f) : 97 ≤ B (f + i) ∧ B (f + i) ≤ 122 ∧ f + i < m := by
  rw [tE_l h] at hi
  have := iB_t.mp (rnF_in (a := 97) (b := 122) (B := B) (m := m) (p := f) (i := f + i) (by omega) (by omega))
  omega
theorem wd_k {B : Nat → Nat} {m f : Nat} (hB : ∀ k, k < m → B k < 256) {k : Nat} (hk : k < 15) : wdN B m f = wcN k ∧ ltr B m f = true ↔ iW B m f k = true := by
  obtain ⟨c1, c0, c2⟩ := wc_ok k hk
  unfold iW
  constructor
  · intro ⟨h, hl⟩
    unfold wdN at h
    have hc : cdN (fun i => B (f + i) - 96) (tE B m f - f) = cdN (sD k) (sLen.getD k 0) := by
      rcases hc_cd (fun i => B (f + i) - 96) (tE B m f - f) with q | ⟨q1, q2⟩
      · rw [← q, h, c1]
      · omega
    obtain ⟨r1, r2⟩ := cd_inj _ _ (fun i hi => by have := lt_run hl hi; show 1 ≤ B (f + i) - 96 ∧ B (f + i) - 96 ≤ 31; omega) (fun i hi => (sD_ok k hk i hi).1) hc
    rw [hl, decide_eq_true r1, Bool.true_and, Bool.true_and]
    refine all1_t (fun i hi => ?_)
    have hi' : i < tE B m f - f := by omega
    have h1 := lt_run hl hi'
    have h2 : B (f + i) - 96 = sD k i := r2 i hi'
    rw [(sD_ok k hk i hi).2, ← h2, Nat.sub_add_cancel (by omega)]
    exact decide_eq_true rfl
  · intro h
    obtain ⟨hl, h⟩ := Bool.and_eq_true_iff.mp h
    obtain ⟨h1, h2⟩ := Bool.and_eq_true_iff.mp h
    have h1 := of_decide_eq_true h1
    refine ⟨?_, hl⟩
    have hc : cdN (fun i => B (f + i) - 96) (tE B m f - f) = wcN k := by
      rw [c1, h1]
      refine cd_cong _ (fun i hi => ?_)
      have e := of_decide_eq_true (all1_at h2 i hi)
      have h3 := lt_run hl (show i < tE B m f - f by omega)
      have h4 := sD_ok k hk i hi
      rw [h4.2, nI_eq (by omega) (by omega)] at e
      show B (f + i) - 96 = sD k i
      omega
    unfold wdN
    rcases hc_cd (fun i => B (f + i) - 96) (tE B m f - f) with q | ⟨q1, q2⟩
    · rw [q, hc]
    · omega
theorem lN_inj {a b : Nat} (ha : a < 2 ^ 63) (hb : b < 2 ^ 63) (h : lN a = lN b) : a = b := by
  have := congrArg Int64.toInt h
  rw [show (lN a).toInt = (a : Int) from lg_ofNat_toInt ha, show (lN b).toInt = (b : Int) from lg_ofNat_toInt hb] at this
  omega
theorem wdN_lt {B : Nat → Nat} {m f : Nat} (h : ltr B m f = true) : wdN B m f < 2 ^ 61 := by
  have := hc_le (D := fun i => B (f + i) - 96) (tE B m f - f) (fun i hi => by have := lt_run h hi; show B (f + i) - 96 ≤ 31; omega)
  unfold wdN
  omega
/-- is this the word? -/
theorem wd_c {B : Nat → Nat} {m f : Nat} (hB : ∀ k, k < m → B k < 256) {k : Nat} (hk : k < 15) (w : Bool) : lg_cmp (wdV B m f w) (lN (wcN k)) = 0 ↔ (!w && iW B m f k) = true := by
  obtain ⟨c1, c0, c2⟩ := wc_ok k hk
  rw [lg_cmp_eq]
  unfold wdV
  have nz : ¬ (0 : Int64) = lN (wcN k) := fun z => by
    have := lN_inj (a := 0) (by decide) (show wcN k < 2 ^ 63 by omega) z
    omega
  cases w with
  | true => exact ⟨fun z => absurd z nz, fun z => absurd z (by show ¬ false = true; decide)⟩
  | false =>
    cases hl : ltr B m f with
    | false =>
      refine ⟨fun z => absurd z nz, fun z => ?_⟩
      have z : iW B m f k = true := z
      unfold iW at z
      rw [hl] at z
      exact absurd z (by show ¬ false = true; decide)
    | true =>
      have h61 := wdN_lt hl
      refine ⟨fun z => ?_, fun z => ?_⟩
      · have z : lN (wdN B m f) = lN (wcN k) := z
        exact (wd_k hB hk).mp ⟨lN_inj (by omega) (by omega) z, hl⟩
      · have z : iW B m f k = true := z
        show lN (wdN B m f) = lN (wcN k)
        rw [((wd_k hB hk).mpr z).1]
theorem ct_word {B : Nat → Nat} {m : Nat} {σ : Sg} (tb : TBm σ B m) {T : Sg} {r0 r : Nat → Int32} {f : Nat} {w : Bool} (q : Q B m r0 f w r) (hf : f ≤ m) : Ct mX5_word [.ref 45] (RS σ T r) (Ex (some (.long (wdV B m f w))) (RS σ T r)) := by
  have hm := tb.1
  have hle := tE_le (B := B) hf
  have h1 := q.1
  have h9 := q.2.1
  have h10 := q.2.2.1
  have e12 := q.2.2.2.1
  refine Ct.of (by decide +kernel) zX5_word (Nat.le_of_ble_eq_true rfl) (by decide) (fun X go => ?_)
  refine go.1 [7] 40 _ _ _ _ ?_
  have E : ∀ v : Int64, (w = false → ltr B m f = true → v = lN (wdN B m f)) → ∀ k : Nat, X 50 [(0, .ref 45), (1, .long v), (3, .int (nI k))] [] (RS σ T r) := by
    intro v hv k
    refine go.1 [] 40 _ _ _ _ ?_
    cases hw : w with
    | true =>
      rw [hw] at e12
      refine br_f (show ¬ r 12 = 0 from by rw [e12]; decide) ?_
      exact And.intro rfl rfl
    | false =>
      rw [hw] at e12
      refine br_t (show r 12 = 0 from e12) ?_
      refine cl (ct_bA (τ := RS σ T r) (B := B) tb (show r 8 = nI m from h1) (k := f) (by omega) h9) ?_
      have c := isLt (τ := RS σ T r) (k := f) tb
      cases hl : iB 97 122 B m f with
      | false =>
        rw [show ltr B m f = false from hl] at c
        refine cl c ?_
        refine br_t (by decide) ?_
        refine And.intro ?_ rfl
        unfold wdV
        rw [show ltr B m f = false from hl]
        rfl
      | true =>
        rw [show ltr B m f = true from hl] at c
        refine cl c ?_
        refine br_f (by decide) ?_
        refine And.intro ?_ rfl
        unfold wdV
        rw [show ltr B m f = true from hl, hv hw hl]
        rfl
  have L : ∀ d k, k + d = tE B m f - f → ∀ v : Int64, (w = false → ltr B m f = true → v = lN (hcN (fun i => B (f + i) - 96) k)) → X 7 [(0, .ref 45), (1, .long v), (3, .int (nI (f + k)))] [] (RS σ T r) := by
    intro d
    induction d with
    | zero =>
      intro k hk v hv
      have hk : k = tE B m f - f := by omega
      refine go.1 [7, 50] 60 _ _ _ _ ?_
      refine br_t (show r 10 ≤ nI (f + k) from by rw [h10]; exact nI_le (by omega) (by omega)) ?_
      exact E v (fun a b => by rw [hv a b, hk]; rfl) (f + k)
    | succ d ih =>
      intro k hk v hv
      refine go.1 [7, 50] 60 _ _ _ _ ?_
      refine br_f (show ¬ r 10 ≤ nI (f + k) from by rw [h10]; exact nI_ge (by omega) (by omega)) ?_
      refine And.intro (fun (z : lg_cmp v 36028797018963967 ≤ 0) => ?_) (fun (z : ¬ lg_cmp v 36028797018963967 ≤ 0) => ?_)
      · refine Exists.intro (f + k) (And.intro ⟨rfl, by omega, by omega⟩ ?_)
        have ihk := ih (k + 1) (by omega) (32 * v + (σ 51 (f + k) - 96).toInt64) (fun a b => by
          rw [lg_cmp_le, hv a b] at z
          have hb := hc_le (D := fun i => B (f + i) - 96) k (fun i hi => by have := lt_run b (show i < tE B m f - f by omega); show B (f + i) - 96 ≤ 31; omega)
          have l3 := lt_run b (show k < tE B m f - f by omega)
          rw [Int64.le_iff_toInt_le, show (lN (hcN (fun i => B (f + i) - 96) k)).toInt = ((hcN (fun i => B (f + i) - 96) k : Nat) : Int) from lg_ofNat_toInt (by omega), show (36028797018963967 : Int64).toInt = 36028797018963967 from by decide] at z
          rw [hv a b, hcN, if_neg (by omega), (tb.2 (f + k) l3.2.2).1, show (96 : Int32) = nI 96 from rfl, pk_sub (by omega), nI_l (by omega), show (32 : Int64) = lN 32 from rfl, lN_mul, lN_add])
        rw [show nI (f + (k + 1)) = nI (f + k) + 1 from nI_succ _] at ihk
        exact ihk
      · have ihk := ih (k + 1) (by omega) v (fun a b => by
          rw [lg_cmp_le, hv a b] at z
          have hb := hc_le (D := fun i => B (f + i) - 96) k (fun i hi => by have := lt_run b (show i < tE B m f - f by omega); show B (f + i) - 96 ≤ 31; omega)
          rw [Int64.le_iff_toInt_le, show (lN (hcN (fun i => B (f + i) - 96) k)).toInt = ((hcN (fun i => B (f + i) - 96) k : Nat) : Int) from lg_ofNat_toInt (by omega), show (36028797018963967 : Int64).toInt = 36028797018963967 from by decide] at z
          rw [hv a b, hcN, if_pos (by omega)])
        rw [show nI (f + (k + 1)) = nI (f + k) + 1 from nI_succ _] at ihk
        exact ihk
  have L0 := L (tE B m f - f) 0 (by omega) 0 (fun _ _ => rfl)
  rw [Nat.add_zero, ← h9] at L0
  exact L0
theorem dg_run {B : Nat → Nat} {m f i : Nat} (h : dgt B m f = true) (hi : i < tE B m f - f) : 48 ≤ B (f + i) ∧ B (f + i) ≤ 57 ∧ f + i < m := by
  rw [(tE_d h).2] at hi
  have := iB_t.mp (rnF_in (a := 48) (b := 57) (B := B) (m := m) (p := f) (i := f + i) (by omega) (by omega))
  omega
theorem vstep {B : Nat → Nat} {f k : Nat} (h : ¬ 999 < vN B f k) (hb : 48 ≤ B (f + k)) : nI 10 * nI (vN B f k) + nI (B (f + k)) - nI 48 = nI (vN B f (k + 1)) := by
  rw [pk_mul, nI_add, pk_sub (by omega), vN, if_neg h]
  congr 1
  omega
theorem ct_number_w {B : Nat → Nat} {m : Nat} {σ T : Sg} {r0 r : Nat → Int32} {f : Nat} (q : Q B m r0 f true r) (lo hi : Int32) : Ct mX5_number [.ref 45, .int lo, .int hi] (RS σ T r) (Ex none (RS σ T r)) := by
  refine Ct.of (by decide +kernel) zX5_number (Nat.le_of_ble_eq_true rfl) (by decide) (fun X go => ?_)
  refine go.1 [] 40 _ _ _ _ ?_
  refine br_f (show ¬ r 12 = 0 from by rw [q.2.2.2.1]; decide) ?_
  exact And.intro rfl rfl
theorem bI_a {x a b : Nat} (hx : x < 2 ^ 31) (ha : a < 2 ^ 31) (hb : b < 2 ^ 31) : bI (nI x) (nI a).toInt (nI b).toInt = (decide (a ≤ x) && decide (x ≤ b)) := by
  rw [nI_bI hx, nI_toInt ha, nI_toInt hb, ← Bool.decide_and]
  congr 1
  exact propext ⟨fun z => ⟨by omega, by omega⟩, fun z => ⟨by omega, by omega⟩⟩
theorem ct_number {B : Nat → Nat} {m : Nat} {σ : Sg} (tb : TBm σ B m) {T : Sg} {r0 r : Nat → Int32} {f : Nat} (q : Q B m r0 f false r) (hf : f ≤ m) {a b : Nat} (ha : a < 10000) (hb : b < 10000) {lo hi : Int32} (el : lo = nI a) (eh : hi = nI b) : Ct mX5_number [.ref 45, .int lo, .int hi] (RS σ T r) (fun x σ' => x = none ∧ ∃ r', σ' = RS σ T r' ∧ Q B m r0 (bif isNm B m f a b then nx B m f else f) (!isNm B m f a b) r' ∧ (dgt B m f = true → r' 11 = nI (val B m f))) := by
  subst el; subst eh
  have hm := tb.1
  have hle := tE_le (B := B) hf
  have h1 := q.1
  have h9 := q.2.1
  have h10 := q.2.2.1
  have e12 := q.2.2.2.1
  refine Ct.of (by decide +kernel) zX5_number (Nat.le_of_ble_eq_true rfl) (by decide) (fun X go => ?_)
  refine go.1 [29] 60 _ _ _ _ ?_
  refine br_t (show r 12 = 0 from e12) ?_
  refine cl (ct_bA (τ := RS σ T r) (B := B) tb (show r 8 = nI m from h1) (k := f) (by omega) h9) ?_
  have c := isDg (τ := RS σ T r) (k := f) tb
  refine cl c ?_
  have E : ∀ (x : Nat) (k : Nat), (dgt B m f = true → x = val B m f) → x < 100000 → X 79 [(0, .ref 45), (1, .int (nI a)), (2, .int (nI b)), (3, .int (zb (dgt B m f))), (4, .int (nI x)), (5, .int (nI k))] [] (RS σ T r) := by
    intro x k hx hx9
    refine go.1 [108] 60 _ _ _ _ ?_
    refine And.intro ⟨rfl, rfl⟩ ?_
    have q11 := Q11 q (nI x)
    have K : ∀ bb : Bool, bb = isNm B m f a b → X 108 [(0, .ref 45), (1, .int (nI a)), (2, .int (nI b)), (3, .int (zb (dgt B m f))), (4, .int (nI x)), (5, .int (nI k))] [.int (zb bb), .ref 45] (RS σ T (upd r 11 (nI x))) := by
      intro bb hbb
      subst hbb
      refine go.1 [] 20 _ _ _ _ ?_
      refine clG (ct_needs tb q11 hf (isNm B m f a b) rfl) (fun y τ hr => ?_)
      obtain ⟨rfl, r', rfl, q', e11⟩ := hr
      refine And.intro rfl ⟨r', rfl, ?_, fun hd => by rw [e11, upd_eq, hx hd]⟩
      have hz : ndF B m f false (isNm B m f a b) = bif isNm B m f a b then nx B m f else f := by
        unfold ndF
        cases isNm B m f a b <;> rfl
      rw [hz] at q'
      exact q'
    rw [← RS_2] at K
    cases hd : iB 48 57 B m f with
    | false =>
      have k0 := K false (by unfold isNm; rw [show dgt B m f = false from hd]; rfl)
      rw [show dgt B m f = false from hd] at k0 ⊢
      refine br_t (by decide) ?_
      exact k0
    | true =>
      have hv := val_le hd
      have hxv := hx hd
      have hbi : bI (nI x) (nI a).toInt (nI b).toInt = isNm B m f a b := by
        rw [bI_a (by omega) (by omega) (by omega)]
        unfold isNm
        rw [show dgt B m f = true from hd, hxv]
        rfl
      have ci := ct_inI (nI x) (nI a) (nI b) rfl rfl (up2 (RS σ T r) 45 11 (nI x))
      rw [hbi] at ci
      rw [show dgt B m f = true from hd] at K ⊢
      refine br_f (by decide) ?_
      refine cl ci ?_
      cases hn : isNm B m f a b with
      | true =>
        have k0 := K true hn.symm
        refine br_f (show ¬ (1 : Int32) = 0 by decide) ?_
        exact k0
      | false =>
        have k0 := K false hn.symm
        refine br_t (show (0 : Int32) = 0 by decide) ?_
        exact k0
  cases hd : iB 48 57 B m f with
  | false =>
    have x0 : X 29 [(0, .ref 45), (1, .int (nI a)), (2, .int (nI b)), (3, .int 0), (4, .int 0), (5, .int (nI f))] [] (RS σ T r) := by
      have e0 := E 0 f (fun z => by rw [show dgt B m f = false from hd] at z; exact absurd z (by decide)) (by decide)
      rw [show dgt B m f = false from hd] at e0
      refine go.1 [79] 60 _ _ _ _ ?_
      refine And.intro (fun _ => e0) (fun _ => ?_)
      refine br_t (by decide) ?_
      exact e0
    rw [← h9] at x0
    rw [show dgt B m f = false from hd]
    exact x0
  | true =>
    have L : ∀ d k, k + d = tE B m f - f → X 29 [(0, .ref 45), (1, .int (nI a)), (2, .int (nI b)), (3, .int 1), (4, .int (nI (vN B f k))), (5, .int (nI (f + k)))] [] (RS σ T r) := by
      intro d
      induction d with
      | zero =>
        intro k hk
        have hk : k = tE B m f - f := by omega
        subst hk
        have e0 := E (val B m f) (f + (tE B m f - f)) (fun _ => rfl) (by have := val_le hd; omega)
        rw [show dgt B m f = true from hd] at e0
        refine go.1 [29, 79] 60 _ _ _ _ ?_
        refine br_t (show r 10 ≤ nI (f + (tE B m f - f)) from by rw [h10]; exact nI_le (by omega) (by omega)) ?_
        exact e0
      | succ d ih =>
        intro k hk
        have l3 := dg_run hd (show k < tE B m f - f by omega)
        have hv := vN_le (B := B) (f := f) k (fun i hi => (dg_run hd (show i < tE B m f - f by omega)).2.1)
        have ihk := ih (k + 1) (by omega)
        rw [show nI (f + (k + 1)) = nI (f + k) + 1 from nI_succ _] at ihk
        refine go.1 [29, 79] 60 _ _ _ _ ?_
        refine br_f (show ¬ r 10 ≤ nI (f + k) from by rw [h10]; exact nI_ge (by omega) (by omega)) ?_
        refine br_f (show ¬ (1 : Int32) = 0 by decide) ?_
        by_cases z : 999 < vN B f k
        · refine br_f (show ¬ nI (vN B f k) ≤ nI 999 from nI_ge z (by omega)) ?_
          rw [show vN B f (k + 1) = vN B f k from by rw [vN, if_pos z]] at ihk
          exact ihk
        · refine br_t (show nI (vN B f k) ≤ nI 999 from nI_le (by omega) (by omega)) ?_
          refine Exists.intro (f + k) (And.intro ⟨rfl, by omega, by omega⟩ ?_)
          rw [← vstep z l3.1, ← (tb.2 (f + k) l3.2.2).1] at ihk
          exact ihk
    have L0 := L (tE B m f - f) 0 (by omega)
    rw [Nat.add_zero, ← h9] at L0
    rw [show dgt B m f = true from hd]
    exact L0
