/-! One stretch: what it pairs and what it leaves, apart. -/
noncomputable section
def selG (P T : Nat → Int) : Nat → Nat → Int → Nat → (Nat → Int) → (Nat → Int)
  | 0, _, _, _, G => G
  | d + 1, k, w, j, G => if 0 < w then (if T k = w ∧ (j : Int) ≤ P k then selG P T d (k + 1) (w - 1) ((P k).toNat + 1) (updG G k (P k)) else selG P T d (k + 1) w j G) else G
theorem selG_s {P T : Nat → Int} {d k j : Nat} {w : Int} {G : Nat → Int} : selG P T (d + 1) k w j G = if 0 < w then (if T k = w ∧ (j : Int) ≤ P k then selG P T d (k + 1) (w - 1) ((P k).toNat + 1) (updG G k (P k)) else selG P T d (k + 1) w j G) else G := rfl
def selK (P T : Nat → Int) (ae be : Nat) : Nat → Nat → Int → Nat → Nat → List St
  | 0, _, _, i, j => [(i, ae, j, be)]
  | d + 1, k, w, i, j => if 0 < w then (if T k = w ∧ (j : Int) ≤ P k then (i, k, j, (P k).toNat) :: selK P T ae be d (k + 1) (w - 1) (k + 1) ((P k).toNat + 1) else selK P T ae be d (k + 1) w i j) else [(i, ae, j, be)]
theorem selK_s {P T : Nat → Int} {ae be d k i j : Nat} {w : Int} : selK P T ae be (d + 1) k w i j = if 0 < w then (if T k = w ∧ (j : Int) ≤ P k then (i, k, j, (P k).toNat) :: selK P T ae be d (k + 1) (w - 1) (k + 1) ((P k).toNat + 1) else selK P T ae be d (k + 1) w i j) else [(i, ae, j, be)] := rfl
theorem selF_e {ad : List St → St → List St} {P T : Nat → Int} {ae be : Nat} : ∀ (d k : Nat) (w : Int) (i j : Nat) (G : Nat → Int) (L : List St), selF ad P T ae be d k w i j G L = (selG P T d k w j G, (selK P T ae be d k w i j).foldl ad L) := by
  intro d
  induction d with
  | zero => intro k w i j G L; rfl
  | succ d ih =>
    intro k w i j G L
    rw [selF_s, selG_s, selK_s]
    by_cases y0 : 0 < w
    · rw [if_pos y0, if_pos y0, if_pos y0]
      by_cases y : T k = w ∧ (j : Int) ≤ P k
      · rw [if_pos y, if_pos y, if_pos y, ih, List.foldl_cons]
      · rw [if_neg y, if_neg y, if_neg y, ih]
    · rw [if_neg y0, if_neg y0, if_neg y0]
      rfl
def mkG (way : Int) (f g : Nat → Int) (a ae b be : Nat) (G : Nat → Int) : Nat → Int :=
  if way = 1 then (if lgs (ptn f g a ae b be) ae (ae - a) = 0 then wk f g ae be ((ae - a) + (be - b)) a b G else selG (ptn f g a ae b be) (tls (ptn f g a ae b be) ae (ae - a)) (ae - a) a (lgs (ptn f g a ae b be) ae (ae - a)) b G)
  else (if rst f g a ae b be = -1 then wk f g ae be ((ae - a) + (be - b)) a b G else (rrr adm f g a ae b be G []).1)
def mkK (way : Int) (f g : Nat → Int) (a ae b be : Nat) : List St :=
  if way = 1 then (if lgs (ptn f g a ae b be) ae (ae - a) = 0 then [] else selK (ptn f g a ae b be) (tls (ptn f g a ae b be) ae (ae - a)) ae be (ae - a) a (lgs (ptn f g a ae b be) ae (ae - a)) a b)
  else (if rst f g a ae b be = -1 then [] else (rrr adm f g a ae b be (fun _ => -1) []).2)
theorem mid_e {ad : List St → St → List St} {way : Int} {f g : Nat → Int} {a ae b be : Nat} {G : Nat → Int} {L : List St} : mid ad way f g a ae b be G L = (mkG way f g a ae b be G, (mkK way f g a ae b be).foldl ad L) := by
  unfold mid mkG mkK
  by_cases y1 : way = 1
  · rw [if_pos y1, if_pos y1, if_pos y1]
    by_cases y2 : lgs (ptn f g a ae b be) ae (ae - a) = 0
    · rw [if_pos y2, if_pos y2, if_pos y2]
      rfl
    · rw [if_neg y2, if_neg y2, if_neg y2]
      unfold unq
      rw [selF_e]
  · rw [if_neg y1, if_neg y1, if_neg y1]
    by_cases y2 : rst f g a ae b be = -1
    · rw [if_pos y2, if_pos y2, if_pos y2]
      rfl
    · rw [if_neg y2, if_neg y2, if_neg y2]
      rfl
def hq (f g : Nat → Int) (q : St) : Nat := hd f g q.1 q.2.1 q.2.2.1 q.2.2.2
def tq (f g : Nat → Int) (q : St) : Nat := tl f g (q.1 + hq f g q) q.2.1 (q.2.2.1 + hq f g q) q.2.2.2
def stG (way : Int) (f g : Nat → Int) (q : St) (G : Nat → Int) : Nat → Int :=
  if way = 0 then wk f g q.2.1 q.2.2.2 ((q.2.1 - q.1) + (q.2.2.2 - q.2.2.1)) q.1 q.2.2.1 G
  else mkG way f g (q.1 + hq f g q) (q.2.1 - tq f g q) (q.2.2.1 + hq f g q) (q.2.2.2 - tq f g q) (pr (q.2.1 - tq f g q) (q.2.2.2 - tq f g q) (tq f g q) (pr q.1 q.2.2.1 (hq f g q) G))
def stK (way : Int) (f g : Nat → Int) (q : St) : List St :=
  if way = 0 then [] else mkK way f g (q.1 + hq f g q) (q.2.1 - tq f g q) (q.2.2.1 + hq f g q) (q.2.2.2 - tq f g q)
theorem stp_e {ad : List St → St → List St} {way : Int} {f g : Nat → Int} {q : St} {G : Nat → Int} {L : List St} : stpS ad way f g q G L = (stG way f g q G, (stK way f g q).foldl ad L) := by
  unfold stG stK
  by_cases y : way = 0
  · unfold stpS
    rw [if_pos y, if_pos y, if_pos y]
    rfl
  · rw [if_neg y, if_neg y, ← mid_e]
    obtain ⟨a, ae, b, be⟩ := q
    exact stp_m y rfl rfl
/-- changes a stretch alone, place by place -/
def LOC (R : (Nat → Int) → (Nat → Int)) (lo hi : Nat) : Prop := (∀ G x, ¬ (lo ≤ x ∧ x < hi) → R G x = G x) ∧ ∀ G G' x, G x = G' x → R G x = R G' x
theorem LOC_id {lo hi : Nat} : LOC (fun G => G) lo hi := ⟨fun _ _ _ => rfl, fun _ _ _ h => h⟩
theorem LOC_c {R S : (Nat → Int) → (Nat → Int)} {lo hi : Nat} (h1 : LOC R lo hi) (h2 : LOC S lo hi) : LOC (fun G => S (R G)) lo hi := ⟨fun G x h => by
  show S (R G) x = G x
  rw [h2.1 _ x h, h1.1 _ x h], fun G G' x h => h2.2 _ _ x (h1.2 _ _ x h)⟩
theorem LOC_m {R : (Nat → Int) → (Nat → Int)} {lo hi lo' hi' : Nat} (h : LOC R lo hi) (h1 : lo' ≤ lo) (h2 : hi ≤ hi') : LOC R lo' hi' := ⟨fun G x h3 => h.1 G x (by omega), h.2⟩
theorem LOC_x {R S : (Nat → Int) → (Nat → Int)} {lo hi lo' hi' : Nat} (h1 : LOC R lo hi) (h2 : LOC S lo' hi') (h : hi ≤ lo' ∨ hi' ≤ lo) (G : Nat → Int) : R (S G) = S (R G) := by
  funext x
  by_cases y : lo ≤ x ∧ x < hi
  · rw [h2.1 (R G) x (by omega)]
    exact h1.2 _ _ x (h2.1 G x (by omega))
  · rw [h1.1 (S G) x y]
    exact (h2.2 _ _ x (h1.1 G x y)).symm
theorem LOC_upd {i lo hi : Nat} {v : Int} (h1 : lo ≤ i) (h2 : i < hi) : LOC (fun G => updG G i v) lo hi := ⟨fun G x h => by
  show updG G i v x = G x
  unfold updG
  rw [if_neg (by omega)], fun G G' x h => by
  show updG G i v x = updG G' i v x
  unfold updG
  rw [h]⟩
theorem LOC_pr {i j n : Nat} : LOC (pr i j n) i (i + n) := ⟨fun G x h => by
  unfold pr
  rw [if_neg h], fun G G' x h => by
  unfold pr
  rw [h]⟩
theorem LOC_wk {f g : Nat → Int} {ae be : Nat} : ∀ (w i j : Nat), LOC (wk f g ae be w i j) i ae := by
  intro w
  induction w with
  | zero => intro i j; exact LOC_id
  | succ w ih =>
    intro i j
    have e : wk f g ae be (w + 1) i j = fun G => if i < ae ∧ j < be then (if f i = g j then wk f g ae be w (i + 1) (j + 1) (updG G i j) else (if lt f g ae be (ae - (i + 1)) (be - j) = lt f g ae be (ae - i) (be - j) then wk f g ae be w (i + 1) j G else wk f g ae be w i (j + 1) G)) else G := rfl
    rw [e]
    by_cases y : i < ae ∧ j < be
    · simp only [if_pos y]
      by_cases y1 : f i = g j
      · simp only [if_pos y1]
        exact LOC_c (LOC_upd (Nat.le_refl i) y.1) (LOC_m (ih (i + 1) (j + 1)) (by omega) (Nat.le_refl ae))
      · simp only [if_neg y1]
        by_cases y2 : lt f g ae be (ae - (i + 1)) (be - j) = lt f g ae be (ae - i) (be - j)
        · simp only [if_pos y2]
          exact LOC_m (ih (i + 1) j) (by omega) (Nat.le_refl ae)
        · simp only [if_neg y2]
          exact ih i (j + 1)
    · simp only [if_neg y]
      exact LOC_id
theorem LOC_selG {P T : Nat → Int} : ∀ (d k : Nat) (w : Int) (j : Nat), LOC (selG P T d k w j) k (k + d) := by
  intro d
  induction d with
  | zero => intro k w j; exact LOC_id
  | succ d ih =>
    intro k w j
    have e : selG P T (d + 1) k w j = fun G => if 0 < w then (if T k = w ∧ (j : Int) ≤ P k then selG P T d (k + 1) (w - 1) ((P k).toNat + 1) (updG G k (P k)) else selG P T d (k + 1) w j G) else G := rfl
    rw [e]
    by_cases y0 : 0 < w
    · simp only [if_pos y0]
      by_cases y : T k = w ∧ (j : Int) ≤ P k
      · simp only [if_pos y]
        exact LOC_c (LOC_upd (Nat.le_refl k) (by omega)) (LOC_m (ih (k + 1) _ _) (by omega) (by omega))
      · simp only [if_neg y]
        exact LOC_m (ih (k + 1) _ _) (by omega) (by omega)
    · simp only [if_neg y0]
      exact LOC_id
theorem LOC_mkG {way : Int} {f g : Nat → Int} {a ae b be : Nat} (ha : a ≤ ae) : LOC (mkG way f g a ae b be) a ae := by
  by_cases y1 : way = 1
  · by_cases y2 : lgs (ptn f g a ae b be) ae (ae - a) = 0
    · have e : mkG way f g a ae b be = wk f g ae be ((ae - a) + (be - b)) a b := by
        funext G
        unfold mkG
        rw [if_pos y1, if_pos y2]
      rw [e]
      exact LOC_wk _ _ _
    · have e : mkG way f g a ae b be = selG (ptn f g a ae b be) (tls (ptn f g a ae b be) ae (ae - a)) (ae - a) a (lgs (ptn f g a ae b be) ae (ae - a)) b := by
        funext G
        unfold mkG
        rw [if_pos y1, if_neg y2]
      rw [e]
      exact LOC_m (LOC_selG _ _ _ _) (Nat.le_refl a) (by omega)
  · by_cases y2 : rst f g a ae b be = -1
    · have e : mkG way f g a ae b be = wk f g ae be ((ae - a) + (be - b)) a b := by
        funext G
        unfold mkG
        rw [if_neg y1, if_pos y2]
      rw [e]
      exact LOC_wk _ _ _
    · rcases rst_c (f := f) (g := g) (b := b) (be := be) ha with h | ⟨k, j, e0, k1, k2, e2, j1, j2, e3⟩
      · exact absurd h y2
      · have ek : (rst f g a ae b be).toNat = k := by omega
        have ej : (fnd g (f k) b (be - b)).toNat = j := by omega
        have bt := tl_b (f := f) (g := g) (a := a) (ae := k) (b := b) (be := j)
        have bu := hd_b (f := f) (g := g) (a := k) (ae := ae) (b := j) (be := be)
        have e : mkG way f g a ae b be = pr (k - tl f g a k b j) (j - tl f g a k b j) (tl f g a k b j + hd f g k ae j be) := by
          funext G
          unfold mkG rrr
          rw [if_neg y1, if_neg y2, ek, ej]
          rfl
        rw [e]
        exact LOC_m LOC_pr (by omega) (by omega)
theorem LOC_stG {way : Int} {f g : Nat → Int} {q : St} (ha : q.1 ≤ q.2.1) : LOC (stG way f g q) q.1 q.2.1 := by
  obtain ⟨a, ae, b, be⟩ := q
  by_cases y : way = 0
  · have e : stG way f g (a, ae, b, be) = wk f g ae be ((ae - a) + (be - b)) a b := by
      funext G
      unfold stG
      rw [if_pos y]
    rw [e]
    exact LOC_wk _ _ _
  · have bp := hd_b (f := f) (g := g) (a := a) (ae := ae) (b := b) (be := be)
    have bq := tl_b (f := f) (g := g) (a := a + hd f g a ae b be) (ae := ae) (b := b + hd f g a ae b be) (be := be)
    have e : stG way f g (a, ae, b, be) = fun G => mkG way f g (a + hd f g a ae b be) (ae - tl f g (a + hd f g a ae b be) ae (b + hd f g a ae b be) be) (b + hd f g a ae b be) (be - tl f g (a + hd f g a ae b be) ae (b + hd f g a ae b be) be) (pr (ae - tl f g (a + hd f g a ae b be) ae (b + hd f g a ae b be) be) (be - tl f g (a + hd f g a ae b be) ae (b + hd f g a ae b be) be) (tl f g (a + hd f g a ae b be) ae (b + hd f g a ae b be) be) (pr a b (hd f g a ae b be) G)) := by
      funext G
      unfold stG
      rw [if_neg y]
      rfl
    rw [e]
    have ha' : a ≤ ae := ha
    obtain ⟨H, hH⟩ : ∃ H, H = hd f g a ae b be := ⟨_, rfl⟩
    rw [← hH] at bp bq ⊢
    obtain ⟨t, ht⟩ : ∃ t, t = tl f g (a + H) ae (b + H) be := ⟨_, rfl⟩
    rw [← ht] at bq ⊢
    have z1 : LOC (pr a b H) a ae := LOC_m LOC_pr (Nat.le_refl a) (by omega)
    have z2 : LOC (pr (ae - t) (be - t) t) a ae := LOC_m LOC_pr (by omega) (by omega)
    have z3 : LOC (mkG way f g (a + H) (ae - t) (b + H) (be - t)) a ae := LOC_m (LOC_mkG (by omega)) (by omega) (by omega)
    exact LOC_c (R := pr a b H) (S := fun G => mkG way f g (a + H) (ae - t) (b + H) (be - t) (pr (ae - t) (be - t) t G)) z1 (LOC_c (R := pr (ae - t) (be - t) t) (S := mkG way f g (a + H) (ae - t) (b + H) (be - t)) z2 z3)
/-- stretches one behind another -/
def CHN (ae be : Nat) : List St → Nat → Nat → Prop
  | [], _, _ => False
  | q :: t, i, j => q.1 = i ∧ q.2.2.1 = j ∧ i ≤ q.2.1 ∧ j ≤ q.2.2.2 ∧ ((t = [] ∧ q.2.1 = ae ∧ q.2.2.2 = be) ∨ ∃ i' j', q.2.1 < i' ∧ q.2.2.2 < j' ∧ CHN ae be t i' j')
/-- twice the widths, and one for each -/
def ms : List St → Nat
  | [] => 0
  | q :: t => (2 * (q.2.1 - q.1) + 1) + ms t
def DJ (q r : St) : Prop := q.2.1 ≤ r.1 ∨ r.2.1 ≤ q.1
def wfS (q : St) : Prop := q.1 ≤ q.2.1 ∧ q.2.2.1 ≤ q.2.2.2
theorem CHN_p {ae be : Nat} : ∀ (l : List St) (i j : Nat), CHN ae be l i j → i ≤ ae ∧ j ≤ be ∧ (∀ q, q ∈ l → i ≤ q.1 ∧ q.1 ≤ q.2.1 ∧ q.2.1 ≤ ae ∧ j ≤ q.2.2.1 ∧ q.2.2.1 ≤ q.2.2.2 ∧ q.2.2.2 ≤ be) ∧ l.Pairwise DJ ∧ ms l + l.length ≤ 2 * (ae - i) + 2 := by
  intro l
  induction l with
  | nil => intro i j h; exact absurd h id
  | cons q t ih =>
    intro i j h
    obtain ⟨h1, h2, h3, h4, h5⟩ := h
    rcases h5 with ⟨h6, h7, h8⟩ | ⟨i', j', h6, h7, h8⟩
    · subst h6
      refine ⟨by omega, by omega, fun r hr => ?_, List.pairwise_cons.mpr ⟨fun r hr => (by cases hr), List.Pairwise.nil⟩, ?_⟩
      · have e : r = q := by simpa using hr
        rw [e]
        omega
      · show (2 * (q.2.1 - q.1) + 1) + 0 + 1 ≤ _
        omega
    · obtain ⟨i1, i2, i3, i4, i5⟩ := ih i' j' h8
      refine ⟨by omega, by omega, fun r hr => ?_, List.pairwise_cons.mpr ⟨fun r hr => ?_, i4⟩, ?_⟩
      · rcases List.mem_cons.mp hr with e | e
        · rw [e]
          omega
        · have := i3 r e
          omega
      · have := i3 r hr
        exact Or.inl (by omega)
      · rw [List.length_cons]
        show (2 * (q.2.1 - q.1) + 1) + ms t + (t.length + 1) ≤ _
        omega
theorem ms_in {l : List St} {q : St} (h : q ∈ l) : 2 * (q.2.1 - q.1) + 1 ≤ ms l := by
  induction l with
  | nil => cases h
  | cons r t ih =>
    show _ ≤ (2 * (r.2.1 - r.1) + 1) + ms t
    rcases List.mem_cons.mp h with e | e
    · rw [e]
      omega
    · have := ih e
      omega
theorem ms_app : ∀ (l m : List St), ms (l ++ m) = ms l + ms m := by
  intro l
  induction l with
  | nil => intro m; show ms m = 0 + ms m; omega
  | cons q t ih =>
    intro m
    show (2 * (q.2.1 - q.1) + 1) + ms (t ++ m) = (2 * (q.2.1 - q.1) + 1) + ms t + ms m
    rw [ih]
    omega
theorem ms_len : ∀ (l : List St), l.length ≤ ms l := by
  intro l
  induction l with
  | nil => exact Nat.le_refl 0
  | cons q t ih =>
    show t.length + 1 ≤ (2 * (q.2.1 - q.1) + 1) + ms t
    omega
theorem selK_c {P T : Nat → Int} {ae be : Nat} (hP : ∀ x, P x < (be : Int)) : ∀ (d k : Nat) (w : Int) (i j : Nat), k + d = ae → i ≤ k → j ≤ be → CHN ae be (selK P T ae be d k w i j) i j := by
  intro d
  induction d with
  | zero =>
    intro k w i j hk hi hj
    exact ⟨rfl, rfl, by show i ≤ ae; omega, hj, Or.inl ⟨rfl, rfl, rfl⟩⟩
  | succ d ih =>
    intro k w i j hk hi hj
    rw [selK_s]
    by_cases y0 : 0 < w
    · rw [if_pos y0]
      by_cases y : T k = w ∧ (j : Int) ≤ P k
      · rw [if_pos y]
        have := hP k
        exact ⟨rfl, rfl, hi, by show j ≤ (P k).toNat; omega, Or.inr ⟨k + 1, (P k).toNat + 1, by show k < k + 1; omega, by show (P k).toNat < (P k).toNat + 1; omega, ih (k + 1) (w - 1) (k + 1) ((P k).toNat + 1) (by omega) (Nat.le_refl _) (by omega)⟩⟩
      · rw [if_neg y]
        exact ih (k + 1) w i j (by omega) (by omega) hj
    · rw [if_neg y0]
      exact ⟨rfl, rfl, by show i ≤ ae; omega, hj, Or.inl ⟨rfl, rfl, rfl⟩⟩
theorem selK_1 {P T : Nat → Int} {ae be : Nat} : ∀ (d k : Nat) (w : Int) (i j : Nat), 1 ≤ (selK P T ae be d k w i j).length := by
  intro d
  induction d with
  | zero => intro k w i j; exact Nat.le_refl 1
  | succ d ih =>
    intro k w i j
    rw [selK_s]
    split
    · split
      · rw [List.length_cons]; omega
      · exact ih _ _ _ _
    · exact Nat.le_refl 1
theorem selK_2 {P T : Nat → Int} {ae be : Nat} : ∀ (d k : Nat) (w : Int) (i j : Nat), 0 < w → (∃ x, k ≤ x ∧ x < k + d ∧ T x = w ∧ (j : Int) ≤ P x) → 2 ≤ (selK P T ae be d k w i j).length := by
  intro d
  induction d with
  | zero =>
    rintro k w i j hw ⟨x, h1, h2, -⟩
    omega
  | succ d ih =>
    rintro k w i j hw ⟨x, h1, h2, h3, h4⟩
    rw [selK_s, if_pos hw]
    by_cases y : T k = w ∧ (j : Int) ≤ P k
    · rw [if_pos y, List.length_cons]
      have := selK_1 (P := P) (T := T) (ae := ae) (be := be) d (k + 1) (w - 1) (k + 1) ((P k).toNat + 1)
      omega
    · rw [if_neg y]
      refine ih (k + 1) w i j hw ⟨x, ?_, by omega, h3, h4⟩
      by_cases e : x = k
      · rw [e] at h3 h4
        exact absurd ⟨h3, h4⟩ y
      · omega
theorem lgs_m {P : Nat → Int} {ae : Nat} (hP : ∀ k, -1 ≤ P k) : ∀ (d a : Nat), a + d = ae → 0 < lgs P ae d → ∃ x, a ≤ x ∧ x < ae ∧ tls P ae (ae - a) x = lgs P ae d ∧ ¬ P x = -1 := by
  intro d
  induction d with
  | zero =>
    intro a _ h
    exact absurd h (Int.lt_irrefl 0)
  | succ d ih =>
    intro a ha h
    have lg := lgs_s (P := P) (a := a) (ae := ae) (k := a) (Nat.le_refl a) (by omega) (hP a)
    rw [show ae - a = d + 1 by omega, show ae - (a + 1) = d by omega] at lg
    rw [lg] at h ⊢
    have up : ∀ x, a + 1 ≤ x → x < ae → tls P ae (ae - a) x = tls P ae (ae - (a + 1)) x := fun x h1 h2 => tls_ge (ae - (a + 1)) (ae - a) x (by omega) (by omega) (by omega)
    by_cases y : P a = -1
    · rw [if_pos y] at h ⊢
      obtain ⟨x, x1, x2, x3, x4⟩ := ih (a + 1) (by omega) h
      exact ⟨x, by omega, x2, by rw [up x x1 x2]; exact x3, x4⟩
    · rw [if_neg y] at h ⊢
      unfold mxI at h ⊢
      by_cases y2 : lgs P ae d < tls P ae (d + 1) a
      · rw [if_pos y2]
        exact ⟨a, Nat.le_refl a, by omega, by rw [show ae - a = d + 1 by omega], y⟩
      · rw [if_neg y2] at h ⊢
        obtain ⟨x, x1, x2, x3, x4⟩ := ih (a + 1) (by omega) h
        exact ⟨x, by omega, x2, by rw [up x x1 x2]; exact x3, x4⟩
/-- what a stretch leaves -/
theorem mkK_c {way : Int} {f g : Nat → Int} {a ae b be : Nat} (ha : a ≤ ae) (hb : b ≤ be) : mkK way f g a ae b be = [] ∨ (2 ≤ (mkK way f g a ae b be).length ∧ CHN ae be (mkK way f g a ae b be) a b) := by
  have hP : ∀ k, -1 ≤ ptn f g a ae b be k ∧ ptn f g a ae b be k < (be : Int) ∧ (¬ ptn f g a ae b be k = -1 → (b : Int) ≤ ptn f g a ae b be k) := fun k => by
    rcases ptn_c (f := f) (g := g) (a := a) (ae := ae) (b := b) (be := be) (k := k) with z | ⟨j, z1, z2, z3, z4⟩
    · omega
    · omega
  by_cases y1 : way = 1
  · by_cases y2 : lgs (ptn f g a ae b be) ae (ae - a) = 0
    · have e : mkK way f g a ae b be = [] := by
        unfold mkK
        rw [if_pos y1, if_pos y2]
      exact Or.inl e
    · have e : mkK way f g a ae b be = selK (ptn f g a ae b be) (tls (ptn f g a ae b be) ae (ae - a)) ae be (ae - a) a (lgs (ptn f g a ae b be) ae (ae - a)) a b := by
        unfold mkK
        rw [if_pos y1, if_neg y2]
      rw [e]
      have l0 := (lgs_0 (P := ptn f g a ae b be) (ae := ae) (fun k => (hP k).1) (ae - a) a (by omega)).1
      obtain ⟨x, x1, x2, x3, x4⟩ := lgs_m (P := ptn f g a ae b be) (ae := ae) (fun k => (hP k).1) (ae - a) a (by omega) (by omega)
      exact Or.inr ⟨selK_2 _ _ _ _ _ (by omega) ⟨x, x1, by omega, x3, (hP x).2.2 x4⟩, selK_c (fun k => (hP k).2.1) _ _ _ _ _ (by omega) (Nat.le_refl a) hb⟩
  · by_cases y2 : rst f g a ae b be = -1
    · have e : mkK way f g a ae b be = [] := by
        unfold mkK
        rw [if_neg y1, if_pos y2]
      exact Or.inl e
    · rcases rst_c (f := f) (g := g) (b := b) (be := be) ha with h | ⟨k, j, e0, k1, k2, e2, j1, j2, e3⟩
      · exact absurd h y2
      · have ek : (rst f g a ae b be).toNat = k := by omega
        have ej : (fnd g (f k) b (be - b)).toNat = j := by omega
        obtain ⟨t, ht⟩ : ∃ t, t = tl f g a k b j := ⟨_, rfl⟩
        obtain ⟨u, hu⟩ : ∃ u, u = hd f g k ae j be := ⟨_, rfl⟩
        have bt := tl_b (f := f) (g := g) (a := a) (ae := k) (b := b) (be := j)
        have bu := hd_b (f := f) (g := g) (a := k) (ae := ae) (b := j) (be := be)
        rw [← ht] at bt
        rw [← hu] at bu
        have hu1 : 1 ≤ u := by
          by_cases y : 1 ≤ u
          · exact y
          · exfalso
            have z := bu.2.2.2 (by omega) (by omega)
            rw [show u = 0 by omega, Nat.add_zero, Nat.add_zero] at z
            exact z e3.symm
        have e : mkK way f g a ae b be = [(a, k - t, b, j - t), (k + u, ae, j + u, be)] := by
          unfold mkK rrr
          rw [if_neg y1, if_neg y2, ek, ej, ht, hu]
          rfl
        rw [e]
        exact Or.inr ⟨Nat.le_refl 2, rfl, rfl, by show a ≤ k - t; omega, by show b ≤ j - t; omega, Or.inr ⟨k + u, j + u, by show k - t < k + u; omega, by show j - t < j + u; omega, rfl, rfl, by show k + u ≤ ae; omega, by show j + u ≤ be; omega, Or.inl ⟨rfl, rfl, rfl⟩⟩⟩
theorem stK_c {way : Int} {f g : Nat → Int} {q : St} (hq' : wfS q) : stK way f g q = [] ∨ (2 ≤ (stK way f g q).length ∧ ∃ ae be i j, q.1 ≤ i ∧ ae ≤ q.2.1 ∧ q.2.2.1 ≤ j ∧ be ≤ q.2.2.2 ∧ CHN ae be (stK way f g q) i j) := by
  obtain ⟨a, ae, b, be⟩ := q
  obtain ⟨ha, hb⟩ := hq'
  have ha : a ≤ ae := ha
  have hb : b ≤ be := hb
  by_cases y : way = 0
  · left
    unfold stK
    rw [if_pos y]
  · have bp := hd_b (f := f) (g := g) (a := a) (ae := ae) (b := b) (be := be)
    have bq := tl_b (f := f) (g := g) (a := a + hd f g a ae b be) (ae := ae) (b := b + hd f g a ae b be) (be := be)
    have e : stK way f g (a, ae, b, be) = mkK way f g (a + hd f g a ae b be) (ae - tl f g (a + hd f g a ae b be) ae (b + hd f g a ae b be) be) (b + hd f g a ae b be) (be - tl f g (a + hd f g a ae b be) ae (b + hd f g a ae b be) be) := by
      unfold stK
      rw [if_neg y]
      rfl
    rw [e]
    rcases mkK_c (way := way) (f := f) (g := g) (a := a + hd f g a ae b be) (ae := ae - tl f g (a + hd f g a ae b be) ae (b + hd f g a ae b be) be) (b := b + hd f g a ae b be) (be := be - tl f g (a + hd f g a ae b be) ae (b + hd f g a ae b be) be) (by omega) (by omega) with z | ⟨z1, z2⟩
    · exact Or.inl z
    · exact Or.inr ⟨z1, _, _, _, _, by show a ≤ _; omega, by show _ ≤ ae; omega, by show b ≤ _; omega, by show _ ≤ be; omega, z2⟩
end
