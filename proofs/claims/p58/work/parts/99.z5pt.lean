/-! A patch put on a text: the pure search, and the class's search. -/
noncomputable section
/-- 1 if it holds, 0 otherwise -/
def WI (p : Prop) : Int := @ite _ p (Classical.propDecidable p) 1 0
theorem WI_1 {p : Prop} (h : p) : WI p = 1 := if_pos h
theorem WI_0 {p : Prop} (h : ¬ p) : WI p = 0 := if_neg h
theorem WI_cg {p q : Prop} (h : p ↔ q) : WI p = WI q := by
  by_cases y : p
  · rw [WI_1 y, WI_1 (h.mp y)]
  · rw [WI_0 y, WI_0 (fun e => y (h.mpr e))]
/-- a hunk with its context fits at a place -/
def ftP (X T : Nat → Int) (n q dr a b least : Nat) (p : Int) : Prop := (least : Int) ≤ p ∧ (a : Int) ≤ p ∧ p + dr + b ≤ n ∧ ∀ x, x < a + dr + b → X (q - a + x) = T (p.toNat - a + x)
theorem ftP_l {X T : Nat → Int} {n q dr a b least : Nat} {p : Int} : ftP X T n q dr a b least p ↔ (least : Int) ≤ p ∧ ftP X T n q dr a b 0 p := by
  constructor
  · rintro ⟨h1, h2, h3, h4⟩
    exact ⟨h1, by omega, h2, h3, h4⟩
  · rintro ⟨h1, -, h2, h3, h4⟩
    exact ⟨h1, h2, h3, h4⟩
/-- the first place, from the expected one on -/
def skF (W : Int → Prop) (ex : Int) : Nat → Nat → Int
  | 0, _ => -1
  | d + 1, k => @ite _ (W (ex - k)) (Classical.propDecidable _) (ex - k) (@ite _ (W (ex + k)) (Classical.propDecidable _) (ex + k) (skF W ex d (k + 1)))
theorem sk_b {W : Int → Prop} {ex : Int} {d k : Nat} (h : W (ex - k)) : skF W ex (d + 1) k = ex - k := if_pos h
theorem sk_o {W : Int → Prop} {ex : Int} {d k : Nat} (h : ¬ W (ex - k)) (h2 : W (ex + k)) : skF W ex (d + 1) k = ex + k := (if_neg h).trans (if_pos h2)
theorem sk_n {W : Int → Prop} {ex : Int} {d k : Nat} (h : ¬ W (ex - k)) (h2 : ¬ W (ex + k)) : skF W ex (d + 1) k = skF W ex d (k + 1) := (if_neg h).trans (if_neg h2)
theorem sk_no {W : Int → Prop} {ex : Int} : ∀ (d k : Nat), (∀ x : Nat, k ≤ x → ¬ W (ex - x) ∧ ¬ W (ex + x)) → skF W ex d k = -1 := by
  intro d
  induction d with
  | zero => intro k _; rfl
  | succ d ih =>
    intro k h
    rw [sk_n (h k (Nat.le_refl _)).1 (h k (Nat.le_refl _)).2]
    exact ih (k + 1) (fun x hx => h x (by omega))
theorem sk_ext {W : Int → Prop} {ex : Int} : ∀ (d e k : Nat), (∀ x : Nat, k + d ≤ x → ¬ W (ex - x) ∧ ¬ W (ex + x)) → skF W ex (d + e) k = skF W ex d k := by
  intro d
  induction d with
  | zero =>
    intro e k h
    rw [sk_no _ _ (fun x hx => h x (by omega))]
    rfl
  | succ d ih =>
    intro e k h
    rw [show d + 1 + e = (d + e) + 1 by omega]
    by_cases h1 : W (ex - k)
    · rw [sk_b h1, sk_b h1]
    by_cases h2 : W (ex + k)
    · rw [sk_o h1 h2, sk_o h1 h2]
    rw [sk_n h1 h2, sk_n h1 h2]
    exact ih e (k + 1) (fun x hx => h x (by omega))
theorem sk_in {W : Int → Prop} {ex : Int} : ∀ (d k : Nat), ¬ skF W ex d k = -1 → W (skF W ex d k) := by
  intro d
  induction d with
  | zero => intro k h; exact absurd rfl h
  | succ d ih =>
    intro k h
    by_cases h1 : W (ex - k)
    · rw [sk_b h1]; exact h1
    by_cases h2 : W (ex + k)
    · rw [sk_o h1 h2]; exact h2
    rw [sk_n h1 h2] at h ⊢
    exact ih (k + 1) h
/-- with less and less context -/
def srF (S : Nat → Int) : Nat → Nat → Int × Nat
  | 0, k => (-1, k)
  | d + 1, k => if S k = -1 then srF S d (k + 1) else (S k, k)
theorem sr_cg {S S' : Nat → Int} : ∀ (d k : Nat), (∀ x, k ≤ x → x < k + d → S x = S' x) → srF S d k = srF S' d k := by
  intro d
  induction d with
  | zero => intro k _; rfl
  | succ d ih =>
    intro k h
    show (if S k = -1 then srF S d (k + 1) else (S k, k)) = (if S' k = -1 then srF S' d (k + 1) else (S' k, k))
    rw [h k (Nat.le_refl _) (by omega), ih (k + 1) (fun x h1 h2 => h x (by omega) (by omega))]
theorem sr_in {S : Nat → Int} : ∀ (d k : Nat), ¬ (srF S d k).1 = -1 → ∃ x, k ≤ x ∧ x < k + d ∧ srF S d k = (S x, x) ∧ ¬ S x = -1 := by
  intro d
  induction d with
  | zero => intro k h; exact absurd rfl h
  | succ d ih =>
    intro k h
    have e : srF S (d + 1) k = if S k = -1 then srF S d (k + 1) else (S k, k) := rfl
    rw [e] at h ⊢
    by_cases y : S k = -1
    · rw [if_pos y] at h ⊢
      obtain ⟨x, h1, h2, h3, h4⟩ := ih (k + 1) h
      exact ⟨x, by omega, by omega, h3, h4⟩
    · rw [if_neg y]
      exact ⟨k, Nat.le_refl _, by omega, rfl, y⟩
/-- the class's answer -/
def anI (z : Int × Nat) : Int := if z.1 = -1 then -1 else 10 * z.1 + (z.2 : Int)
theorem l141 {R t nb n : Nat} {X T : Nat → Int} {σ : Sg} {sh : Int} {d1} (hR : isRow R = true) (ht : isRow t = true) (VX : RV σ R nb X) (VT : RV σ t n T) (h16 : n ≤ 100 ∧ nb ≤ 100) {e : Nat} (he : e ≤ nb) (he2 : (e : Int) + sh ≤ n) : ∀ (d i : Nat), i + d = e → 0 ≤ (i : Int) + sh → C141_23 R d1 e t sh i σ (rI (WI (∀ x, i ≤ x → x < e → X x = T ((x : Int) + sh).toNat)) σ) := by
  intro d
  induction d with
  | zero =>
    intro i hd h0
    refine b141_23 hR ht ?_
    rw [if_neg (by omega), WI_1 (fun x h1 h2 => absurd h1 (by omega))]
  | succ d ih =>
    intro i hd h0
    obtain ⟨j, hj⟩ := Int.eq_ofNat_of_zero_le h0
    have e1 := RV_147 VX (i := i) (by omega)
    have e2 := RV_147 VT (i := j) (by omega)
    refine b141_23 hR ht ?_
    rw [if_pos (by omega)]
    refine ⟨_, _, e1, by omega, ?_⟩
    rw [hj]
    refine ⟨_, _, e2, ?_⟩
    by_cases y : X i = T j
    · rw [if_pos y, show (i : Int) + 1 = ((i + 1 : Nat) : Int) by omega]
      have z := ih (i + 1) (by omega) (by omega)
      rw [WI_cg (p := ∀ x, i ≤ x → x < e → X x = T ((x : Int) + sh).toNat) (q := ∀ x, i + 1 ≤ x → x < e → X x = T ((x : Int) + sh).toNat) ⟨fun h x h1 h2 => h x (by omega) h2, fun h x h1 h2 => by
        by_cases e : x = i
        · rw [e, hj, tn]; exact y
        · exact h x (by omega) h2⟩]
      exact ⟨by omega, z⟩
    · rw [if_neg y, WI_0 (fun h => y (by
        have z := h i (Nat.le_refl _) (by omega)
        rw [hj, tn] at z
        exact z))]
/-- fits -/
theorem d141 {R t nb n q dr a b : Nat} {X T : Nat → Int} {σ : Sg} {p : Int} (hR : isRow R = true) (ht : isRow t = true) (VX : RV σ R nb X) (VT : RV σ t n T) (h16 : n ≤ 100 ∧ nb ≤ 100) (ha : a ≤ q) (hb : q + dr + b ≤ nb) (hp : -1000 ≤ p ∧ p ≤ 1000) : Dd 141 [vA R, vI ((q - a : Nat) : Int), vI ((q + dr + b : Nat) : Int), vA t, vI (p - q)] σ (rI (WI (ftP X T n q dr a b 0 p)) σ) := by
  have e0 := RV_146 VT
  refine b141 ht ⟨by omega, ?_⟩
  by_cases y1 : (a : Int) ≤ p
  · rw [if_pos (by omega)]
    refine ⟨by omega, _, _, e0, ?_⟩
    by_cases y2 : p + dr + b ≤ n
    · rw [if_neg (by omega)]
      have z := l141 (d1 := some (vI ((q - a : Nat) : Int))) (sh := p - q) hR ht VX VT h16 (e := q + dr + b) hb (by omega) (a + dr + b) (q - a) (by omega) (by omega)
      rw [WI_cg (p := ftP X T n q dr a b 0 p) (q := ∀ x, q - a ≤ x → x < q + dr + b → X x = T ((x : Int) + (p - q)).toNat) ⟨fun h x h1 h2 => by
        have z := h.2.2.2 (x - (q - a)) (by omega)
        rw [show q - a + (x - (q - a)) = x by omega, show p.toNat - a + (x - (q - a)) = ((x : Int) + (p - q)).toNat by omega] at z
        exact z, fun h => ⟨by omega, y1, y2, fun x hx => by
        have z := h (q - a + x) (by omega) (by omega)
        rw [show (((q - a + x : Nat) : Int) + (p - q)).toNat = p.toNat - a + x by omega] at z
        exact z⟩⟩]
      exact z
    · rw [if_pos (by omega), WI_0 (fun h => y2 h.2.2.1)]
  · rw [if_neg (by omega), WI_0 (fun h => y1 h.2.1)]
theorem l140 {P t nb n q dr a b least : Nat} {X T : Nat → Int} {σ : Sg} {ex : Int} {d1} (hP : isPatch P = true) (ht : isRow t = true) (VX : RV σ (P + 1) nb X) (VT : RV σ t n T) (h16 : n ≤ 100 ∧ nb ≤ 100) (ha : a ≤ q) (hb : q + dr + b ≤ nb) (hx : -100 ≤ ex ∧ ex ≤ 100) (hl : least ≤ 100) : ∀ (d k : Nat), k + d = 65 → ∀ d9 d10, C140_10 P d1 t ((q - a : Nat) : Int) ((q + dr + b : Nat) : Int) ex least q k d9 d10 σ (rI (skF (ftP X T n q dr a b least) ex d k) σ) := by
  intro d
  induction d with
  | zero =>
    intro k hk d9 d10
    refine b140_10 hP ?_
    rw [if_neg (by omega)]
    rfl
  | succ d ih =>
    intro k hk d9 d10
    have f1 := d141 (p := ex - k) (pat_1 hP) ht VX VT h16 ha hb (by omega)
    have f2 := d141 (p := ex + k) (pat_1 hP) ht VX VT h16 ha hb (by omega)
    have next : ∀ (d9 d10 : Option AV), ¬ ftP X T n q dr a b least (ex - k) → ¬ ftP X T n q dr a b least (ex + k) → C140_89 P d1 t ((q - a : Nat) : Int) ((q + dr + b : Nat) : Int) ex least q k d9 d10 σ (rI (skF (ftP X T n q dr a b least) ex (d + 1) k) σ) := fun d9 d10 h1 h2 => by
      rw [sk_n h1 h2]
      refine b140_89 ⟨by omega, ?_⟩
      rw [show (k : Int) + 1 = ((k + 1 : Nat) : Int) by omega]
      exact ih (k + 1) (by omega) d9 d10
    have on : ∀ (d9 : Option AV), ¬ ftP X T n q dr a b least (ex - k) → C140_60 P d1 t ((q - a : Nat) : Int) ((q + dr + b : Nat) : Int) ex least q k d9 (ex + k) σ (rI (skF (ftP X T n q dr a b least) ex (d + 1) k) σ) := fun d9 h1 => by
      refine b140_60 hP ?_
      by_cases y : (least : Int) ≤ ex + k
      · rw [if_pos y]
        refine ⟨by omega, _, _, f2, ?_⟩
        by_cases y2 : ftP X T n q dr a b 0 (ex + k)
        · rw [WI_1 y2, if_neg (show ¬ (1 : Int) = 0 by decide), sk_o h1 (ftP_l.mpr ⟨y, y2⟩)]
        · rw [WI_0 y2, if_pos rfl]
          exact next _ _ h1 (fun h => y2 (ftP_l.mp h).2)
      · rw [if_neg y]
        exact next _ _ h1 (fun h => y h.1)
    refine b140_10 hP ?_
    rw [if_pos (by omega)]
    refine ⟨by omega, by omega, ?_⟩
    by_cases y : (least : Int) ≤ ex - k
    · rw [if_pos y]
      refine ⟨by omega, _, _, f1, ?_⟩
      by_cases y2 : ftP X T n q dr a b 0 (ex - k)
      · rw [WI_1 y2, if_neg (show ¬ (1 : Int) = 0 by decide), sk_b (ftP_l.mpr ⟨y, y2⟩)]
      · rw [WI_0 y2, if_pos rfl]
        exact on _ (fun h => y2 (ftP_l.mp h).2)
    · rw [if_neg y]
      exact on _ (fun h => y h.1)
theorem l139 {P t nb n ah bh least h fz : Nat} {X T : Nat → Int} {σ : Sg} {ex : Int} {l : List St} {q : St} (hP : isPatch P = true) (ht : isRow t = true) (w9 : wR σ (P + 9)) (C : PC σ P l) (hq : l[h]? = some q) (VX : RV σ (P + 1) nb X) (VT : RV σ t n T) (h16 : n ≤ 16 ∧ nb ≤ 16) (ha : ah ≤ q.1) (hb : q.1 + q.2.1 + bh ≤ nb) (hx : -100 ≤ ex ∧ ex ≤ 100) (hl : least ≤ 100) (hf : fz ≤ 3) : ∀ (d k : Nat), k + d = fz + 1 → ∀ d9 d10 d11, C139_27 P h t fz ex least ah bh k d9 d10 d11 σ (rI (anI (srF (fun k => skF (ftP X T n q.1 q.2.1 (ah - k) (bh - k) least) ex 65 0) d k)) σ) := by
  obtain ⟨e1, e2, -, -⟩ := pc_at hP w9 C hq
  intro d
  induction d with
  | zero =>
    intro k hk d9 d10 d11
    refine b139_27 hP ?_
    rw [if_neg (by omega)]
    rfl
  | succ d ih =>
    intro k hk d9 d10 d11
    have iA : (if 0 < ((ah : Int) - (k : Int)) then ((ah : Int) - (k : Int)) else 0) = ((ah - k : Nat) : Int) := by
      by_cases y : 0 < (ah : Int) - (k : Int)
      · rw [if_pos y]; omega
      · rw [if_neg y]; omega
    have iB : (if 0 < ((bh : Int) - (k : Int)) then ((bh : Int) - (k : Int)) else 0) = ((bh - k : Nat) : Int) := by
      by_cases y : 0 < (bh : Int) - (k : Int)
      · rw [if_pos y]; omega
      · rw [if_neg y]; omega
    have e140 : Dd 140 [vA P, vI h, vA t, vI ((q.1 - (ah - k) : Nat) : Int), vI ((q.1 + q.2.1 + (bh - k) : Nat) : Int), vI ex, vI least] σ (rI (skF (ftP X T n q.1 q.2.1 (ah - k) (bh - k) least) ex 65 0) σ) :=
      b140 hP ⟨_, _, e1, l140 (d1 := some (vI (h : Int))) hP ht VX VT ⟨by omega, by omega⟩ (by omega) (by omega) hx hl 65 0 (by omega) none none⟩
    refine b139_27 hP ?_
    rw [show ((q.1 - (ah - k) : Nat) : Int) = ((q.1 : Nat) : Int) - ((ah - k : Nat) : Int) by omega, show ((q.1 + q.2.1 + (bh - k) : Nat) : Int) = ((q.1 + q.2.1 : Nat) : Int) + ((bh - k : Nat) : Int) by omega] at e140
    rw [if_pos (by omega), iA, iB]
    refine ⟨_, _, e1, by omega, by omega, _, _, e2, by omega, by omega, _, _, e140, ?_⟩
    have es : srF (fun k => skF (ftP X T n q.1 q.2.1 (ah - k) (bh - k) least) ex 65 0) (d + 1) k = if skF (ftP X T n q.1 q.2.1 (ah - k) (bh - k) least) ex 65 0 = -1 then srF (fun k => skF (ftP X T n q.1 q.2.1 (ah - k) (bh - k) least) ex 65 0) d (k + 1) else (skF (ftP X T n q.1 q.2.1 (ah - k) (bh - k) least) ex 65 0, k) := rfl
    rw [es]
    by_cases y : skF (ftP X T n q.1 q.2.1 (ah - k) (bh - k) least) ex 65 0 = -1
    · rw [if_pos y, if_pos y, show (k : Int) + 1 = ((k + 1 : Nat) : Int) by omega]
      exact ⟨by omega, ih (k + 1) (by omega) _ _ _⟩
    · rw [if_neg y, if_neg y]
      have z := sk_in _ _ y
      have z1 := z.1
      have z3 := z.2.2.1
      refine ⟨by omega, by omega, ?_⟩
      show rI (if skF (ftP X T n q.1 q.2.1 (ah - k) (bh - k) least) ex 65 0 = -1 then -1 else 10 * skF (ftP X T n q.1 q.2.1 (ah - k) (bh - k) least) ex 65 0 + (k : Int)) σ = _
      rw [if_neg y]
/-- the context of a hunk -/
def ahF (l : List St) (h : Nat) (q : St) : Nat := min 3 (q.1 - peo l h 0)
def bhF (nb : Nat) (l : List St) (h : Nat) (q : St) : Nat := min 3 (nso nb l h - (q.1 + q.2.1))
/-- where a hunk is put -/
def hpF (X T : Nat → Int) (nb n fz : Nat) (l : List St) (h : Nat) (q : St) (ex : Int) (least : Nat) : Int × Nat := srF (fun k => skF (ftP X T n q.1 q.2.1 (ahF l h q - k) (bhF nb l h q - k) least) ex 48 0) (fz + 1) 0
theorem hp_in {X T : Nat → Int} {nb n fz : Nat} {l : List St} {h : Nat} {q : St} {ex : Int} {least : Nat} (y : ¬ (hpF X T nb n fz l h q ex least).1 = -1) : (least : Int) ≤ (hpF X T nb n fz l h q ex least).1 ∧ (hpF X T nb n fz l h q ex least).1 + q.2.1 ≤ n ∧ (hpF X T nb n fz l h q ex least).2 ≤ fz := by
  obtain ⟨x, h1, h2, h3, h4⟩ := sr_in _ _ y
  have e : hpF X T nb n fz l h q ex least = (skF (ftP X T n q.1 q.2.1 (ahF l h q - x) (bhF nb l h q - x) least) ex 48 0, x) := h3
  have z := sk_in _ _ h4
  rw [e]
  obtain ⟨z1, z2, z3, -⟩ := z
  exact ⟨z1, by show skF _ _ _ _ + (q.2.1 : Int) ≤ n; omega, by show x ≤ fz; omega⟩
/-- search -/
theorem d139 {P t nb na n least h fz : Nat} {F X T : Nat → Int} {σ : Sg} {ex : Int} {l : List St} {q : St} (hP : isPatch P = true) (ht : isRow t = true) (w9 : wR σ (P + 9)) (C : PC σ P l) (D : DS F nb na l 0 0 0) (hq : l[h]? = some q) (VX : RV σ (P + 1) nb X) (VT : RV σ t n T) (h16 : n ≤ 16 ∧ nb ≤ 16) (hx : -31 ≤ ex ∧ ex ≤ 47) (hl : least ≤ 16) (hf : fz ≤ 3) : Dd 139 [vA P, vI h, vA t, vI fz, vI ex, vI least] σ (rI (anI (hpF X T nb n fz l h q ex least)) σ) := by
  have hh := (List.getElem?_eq_some_iff.mp hq).1
  obtain ⟨-, -, i4, i5, -, -, -, -, -, -, p2⟩ := DS_at _ _ _ _ _ _ D hq
  have n1 : q.1 + q.2.1 ≤ nso nb l h ∧ nso nb l h ≤ nb := ⟨i4, i5⟩
  have hb := (DS_b l 0 0 0 D).2.2 q (List.mem_of_getElem? hq)
  have e1 := d106h hP w9 C hq p2
  have e2 := d106n hP w9 C VX.2.1 (by omega) hq n1.1
  have cl : h ≤ 5000 := by
    have c1 := C.1
    have c2 := w9.2.2
    have c3 := cap_le w9.1
    omega
  have z := l139 (ah := ahF l h q) (bh := bhF nb l h q) hP ht w9 C hq VX VT h16 (by unfold ahF; omega) (by unfold bhF; omega) (by omega) (by omega) hf (fz + 1) 0 (by omega) none none none (ex := ex) (least := least)
  have ee : srF (fun k => skF (ftP X T n q.1 q.2.1 (ahF l h q - k) (bhF nb l h q - k) least) ex 65 0) (fz + 1) 0 = hpF X T nb n fz l h q ex least := by
    refine sr_cg _ _ (fun x _ _ => ?_)
    refine sk_ext 48 17 0 (fun x hx2 => ⟨fun hw => ?_, fun hw => ?_⟩)
    · have y1 := hw.1
      omega
    · have y3 := hw.2.2.1
      omega
  rw [ee] at z
  refine b139 hP ⟨_, _, e1, by omega, _, _, by rw [show (h : Int) + 1 = ((h + 1 : Nat) : Int) by omega]; exact e2, ?_⟩
  rw [show (if ((q.1 - peo l h 0 : Nat) : Int) < 3 then ((q.1 - peo l h 0 : Nat) : Int) else 3) = ((ahF l h q : Nat) : Int) by
    unfold ahF
    by_cases y : ((q.1 - peo l h 0 : Nat) : Int) < 3
    · rw [if_pos y]; omega
    · rw [if_neg y]; omega, show (if ((nso nb l h - (q.1 + q.2.1) : Nat) : Int) < 3 then ((nso nb l h - (q.1 + q.2.1) : Nat) : Int) else 3) = ((bhF nb l h q : Nat) : Int) by
    unfold bhF
    by_cases y : ((nso nb l h - (q.1 + q.2.1) : Nat) : Int) < 3
    · rw [if_pos y]; omega
    · rw [if_neg y]; omega]
  exact z
end
