/-! All stretches: the order does not matter, and what comes out is in order. -/
noncomputable section
def fnl (way : Int) (f g : Nat → Int) : Nat → St → (Nat → Int) → (Nat → Int)
  | 0, _, G => G
  | n + 1, q, G => if q.1 < q.2.1 ∧ q.2.2.1 < q.2.2.2 then (stK way f g q).foldl (fun G r => fnl way f g n r G) (stG way f g q G) else G
theorem fnl_s {way : Int} {f g : Nat → Int} {n : Nat} {q : St} {G : Nat → Int} : fnl way f g (n + 1) q G = if q.1 < q.2.1 ∧ q.2.2.1 < q.2.2.2 then (stK way f g q).foldl (fun G r => fnl way f g n r G) (stG way f g q G) else G := rfl
theorem LOC_fld {F : St → (Nat → Int) → (Nat → Int)} {lo hi : Nat} : ∀ (l : List St), (∀ r, r ∈ l → LOC (F r) lo hi) → LOC (fun G => l.foldl (fun G r => F r G) G) lo hi := by
  intro l
  induction l with
  | nil => intro _; exact LOC_id
  | cons q t ih =>
    intro h
    exact LOC_c (h q List.mem_cons_self) (ih (fun r hr => h r (List.mem_cons_of_mem _ hr)))
theorem fld_cg {F F' : St → (Nat → Int) → (Nat → Int)} : ∀ (l : List St) (G : Nat → Int), (∀ r, r ∈ l → ∀ G, F r G = F' r G) → l.foldl (fun G r => F r G) G = l.foldl (fun G r => F' r G) G := by
  intro l
  induction l with
  | nil => intro G _; rfl
  | cons q t ih =>
    intro G h
    rw [List.foldl_cons, List.foldl_cons, h q List.mem_cons_self]
    exact ih _ (fun r hr => h r (List.mem_cons_of_mem _ hr))
theorem kid_f {way : Int} {f g : Nat → Int} {q : St} (hw : wfS q) : (∀ r, r ∈ stK way f g q → wfS r ∧ q.1 ≤ r.1 ∧ r.2.1 ≤ q.2.1 ∧ q.2.2.1 ≤ r.2.2.1 ∧ r.2.2.2 ≤ q.2.2.2 ∧ r.2.1 - r.1 < q.2.1 - q.1) ∧ (stK way f g q).Pairwise DJ ∧ ms (stK way f g q) ≤ 2 * (q.2.1 - q.1) := by
  rcases stK_c (way := way) (f := f) (g := g) hw with e | ⟨h2, ae, be, i, j, g1, g2, g3, g4, c⟩
  · rw [e]
    exact ⟨fun r hr => (by cases hr), List.Pairwise.nil, Nat.zero_le _⟩
  · obtain ⟨c1, c2, c3, c4, c5⟩ := CHN_p _ _ _ c
    refine ⟨fun r hr => ?_, c4, by omega⟩
    have m := ms_in hr
    have z := c3 r hr
    exact ⟨⟨by omega, by omega⟩, by omega, by omega, by omega, by omega, by omega⟩
theorem LOC_fnl {way : Int} {f g : Nat → Int} : ∀ (n : Nat) (q : St), wfS q → LOC (fnl way f g n q) q.1 q.2.1 := by
  intro n
  induction n with
  | zero => intro q _; exact LOC_id
  | succ n ih =>
    intro q hw
    have e : fnl way f g (n + 1) q = fun G => if q.1 < q.2.1 ∧ q.2.2.1 < q.2.2.2 then (stK way f g q).foldl (fun G r => fnl way f g n r G) (stG way f g q G) else G := rfl
    rw [e]
    by_cases y : q.1 < q.2.1 ∧ q.2.2.1 < q.2.2.2
    · simp only [if_pos y]
      exact LOC_c (LOC_stG hw.1) (LOC_fld (F := fun r G => fnl way f g n r G) _ (fun r hr => by
        have z := (kid_f (way := way) (f := f) (g := g) hw).1 r hr
        exact LOC_m (ih r z.1) z.2.1 z.2.2.1))
    · simp only [if_neg y]
      exact LOC_id
theorem fnl_e {way : Int} {f g : Nat → Int} {n : Nat} {q : St} {G : Nat → Int} (h : ¬ (q.1 < q.2.1 ∧ q.2.2.1 < q.2.2.2)) : fnl way f g n q G = G := by
  cases n with
  | zero => rfl
  | succ n => rw [fnl_s, if_neg h]
theorem fnl_u {way : Int} {f g : Nat → Int} : ∀ (n : Nat) (q : St) (G : Nat → Int), wfS q → q.2.1 - q.1 ≤ n → fnl way f g (n + 1) q G = fnl way f g n q G := by
  intro n
  induction n with
  | zero =>
    intro q G _ h
    rw [fnl_e (by omega), fnl_e (by omega)]
  | succ n ih =>
    intro q G hw h
    by_cases y : q.1 < q.2.1 ∧ q.2.2.1 < q.2.2.2
    · rw [fnl_s, if_pos y, fnl_s, if_pos y]
      exact fld_cg (F := fun r G => fnl way f g (n + 1) r G) (F' := fun r G => fnl way f g n r G) _ _ (fun r hr G => by
        have z := (kid_f (way := way) (f := f) (g := g) hw).1 r hr
        exact ih r G z.1 (by omega))
    · rw [fnl_e y, fnl_e y]
theorem fnl_k {way : Int} {f g : Nat → Int} {n : Nat} {q : St} {G : Nat → Int} (hw : wfS q) (h : q.2.1 - q.1 ≤ n) (y : q.1 < q.2.1 ∧ q.2.2.1 < q.2.2.2) : fnl way f g n q G = (stK way f g q).foldl (fun G r => fnl way f g n r G) (stG way f g q G) := by
  rw [← fnl_u n q G hw h, fnl_s, if_pos y]
theorem fld_x {way : Int} {f g : Nat → Int} {n : Nat} {q : St} (hw : wfS q) : ∀ (T : List St) (G : Nat → Int), (∀ r, r ∈ T → wfS r ∧ DJ q r) → T.foldl (fun G r => fnl way f g n r G) (fnl way f g n q G) = fnl way f g n q (T.foldl (fun G r => fnl way f g n r G) G) := by
  intro T
  induction T with
  | nil => intro G _; rfl
  | cons r t ih =>
    intro G h
    have z := h r List.mem_cons_self
    rw [List.foldl_cons, List.foldl_cons, ← LOC_x (LOC_fnl n q hw) (LOC_fnl n r z.1) z.2 G]
    exact ih _ (fun r hr => h r (List.mem_cons_of_mem _ hr))
theorem fld_xx {way : Int} {f g : Nat → Int} {n : Nat} : ∀ (K T : List St) (G : Nat → Int), (∀ q, q ∈ K → wfS q) → (∀ r, r ∈ T → wfS r) → (∀ q r, q ∈ K → r ∈ T → DJ q r) → T.foldl (fun G r => fnl way f g n r G) (K.foldl (fun G r => fnl way f g n r G) G) = K.foldl (fun G r => fnl way f g n r G) (T.foldl (fun G r => fnl way f g n r G) G) := by
  intro K
  induction K with
  | nil => intro T G _ _ _; rfl
  | cons q t ih =>
    intro T G h1 h2 h3
    rw [List.foldl_cons, List.foldl_cons, ih T _ (fun q hq => h1 q (List.mem_cons_of_mem _ hq)) h2 (fun q r hq hr => h3 q r (List.mem_cons_of_mem _ hq) hr), fld_x (h1 q List.mem_cons_self) T G (fun r hr => ⟨h2 r hr, h3 q r List.mem_cons_self hr⟩)]
def nef (q : St) : Bool := decide (q.1 < q.2.1 ∧ q.2.2.1 < q.2.2.2)
theorem fld_flt {way : Int} {f g : Nat → Int} {n : Nat} : ∀ (K : List St) (G : Nat → Int), (K.filter nef).foldl (fun G r => fnl way f g n r G) G = K.foldl (fun G r => fnl way f g n r G) G := by
  intro K
  induction K with
  | nil => intro G; rfl
  | cons q t ih =>
    intro G
    rw [List.foldl_cons]
    by_cases y : q.1 < q.2.1 ∧ q.2.2.1 < q.2.2.2
    · rw [List.filter_cons_of_pos (show nef q = true from decide_eq_true y), List.foldl_cons]
      exact ih _
    · rw [List.filter_cons_of_neg (show ¬ nef q = true from fun e => y (of_decide_eq_true e)), fnl_e y]
      exact ih _
theorem foldl_ads : ∀ (K L : List St), K.foldl ads L = L ++ K.filter nef := by
  intro K
  induction K with
  | nil => intro L; exact (List.append_nil L).symm
  | cons q t ih =>
    intro L
    rw [List.foldl_cons, ih]
    unfold ads
    by_cases y : q.1 < q.2.1 ∧ q.2.2.1 < q.2.2.2
    · rw [if_pos y, List.filter_cons_of_pos (show nef q = true from decide_eq_true y), List.append_assoc]
      rfl
    · rw [if_neg y, List.filter_cons_of_neg (show ¬ nef q = true from fun e => y (of_decide_eq_true e))]
theorem foldl_adm : ∀ (K L : List St), K.foldl adm L = L ++ K := by
  intro K
  induction K with
  | nil => intro L; exact (List.append_nil L).symm
  | cons q t ih =>
    intro L
    rw [List.foldl_cons, ih]
    unfold adm
    rw [List.append_assoc]
    rfl
/-- stretches that wait -/
def PS (n : Nat) (l : List St) : Prop := (∀ r, r ∈ l → wfS r ∧ r.2.1 - r.1 ≤ n) ∧ l.Pairwise DJ
theorem DJ_s {q r : St} (h : DJ q r) : DJ r q := h.symm
theorem PS_kids {way : Int} {f g : Nat → Int} {n : Nat} {q : St} {T : List St} (hq : wfS q) (hn : q.2.1 - q.1 ≤ n) (hT : PS n T) (hd : ∀ r, r ∈ T → DJ q r) : PS n (T ++ stK way f g q) := by
  obtain ⟨k1, k2, k3⟩ := kid_f (way := way) (f := f) (g := g) hq
  refine ⟨fun r hr => ?_, List.pairwise_append.mpr ⟨hT.2, k2, fun t ht r hr => ?_⟩⟩
  · rcases List.mem_append.mp hr with h | h
    · exact hT.1 r h
    · have z := k1 r h
      exact ⟨z.1, by omega⟩
  · have z := k1 r hr
    have d := hd t ht
    unfold DJ at d ⊢
    omega
theorem ms_flt : ∀ (K : List St), ms (K.filter nef) ≤ ms K := by
  intro K
  induction K with
  | nil => exact Nat.le_refl _
  | cons q t ih =>
    by_cases y : nef q = true
    · rw [List.filter_cons_of_pos y]
      show (2 * (q.2.1 - q.1) + 1) + ms (t.filter nef) ≤ (2 * (q.2.1 - q.1) + 1) + ms t
      omega
    · rw [List.filter_cons_of_neg y]
      show ms (t.filter nef) ≤ (2 * (q.2.1 - q.1) + 1) + ms t
      omega
theorem cls_step {way : Int} {f g : Nat → Int} {n : Nat} {q : St} {T : List St} {G : Nat → Int} (H : PS n (q :: T)) (y : q.1 < q.2.1 ∧ q.2.2.1 < q.2.2.2) : (q :: T).foldl (fun G r => fnl way f g n r G) G = (T ++ (stK way f g q).filter nef).foldl (fun G r => fnl way f g n r G) (stG way f g q G) ∧ PS n (T ++ (stK way f g q).filter nef) ∧ ms (T ++ (stK way f g q).filter nef) < ms (q :: T) := by
  obtain ⟨h1, h2⟩ := H
  obtain ⟨h3, h4⟩ := List.pairwise_cons.mp h2
  have hq := h1 q List.mem_cons_self
  have hT : PS n T := ⟨fun r hr => h1 r (List.mem_cons_of_mem _ hr), h4⟩
  obtain ⟨k1, k2, k3⟩ := kid_f (way := way) (f := f) (g := g) hq.1
  have P := PS_kids (way := way) (f := f) (g := g) hq.1 hq.2 hT h3
  refine ⟨?_, ⟨fun r hr => ?_, ?_⟩, ?_⟩
  · rw [List.foldl_cons, fnl_k hq.1 hq.2 y, fld_xx _ _ _ (fun r hr => (k1 r hr).1) (fun r hr => (hT.1 r hr).1) (fun r t hr ht => by
      have z := k1 r hr
      have d := h3 t ht
      unfold DJ at d ⊢
      omega), List.foldl_append, fld_flt]
  · rcases List.mem_append.mp hr with h | h
    · exact hT.1 r h
    · exact P.1 r (List.mem_append.mpr (Or.inr (List.mem_filter.mp h).1))
  · obtain ⟨p1, p2, p3⟩ := List.pairwise_append.mp P.2
    exact List.pairwise_append.mpr ⟨p1, List.Pairwise.sublist List.filter_sublist p2, fun a ha b hb => p3 a ha b (List.mem_filter.mp hb).1⟩
  · rw [ms_app]
    have := ms_flt (stK way f g q)
    show _ < (2 * (q.2.1 - q.1) + 1) + ms T
    omega
/-- a stretch without lines on one side -/
theorem emp_s {way : Int} {f g : Nat → Int} {q : St} {G : Nat → Int} (hw : wfS q) (y : ¬ (q.1 < q.2.1 ∧ q.2.2.1 < q.2.2.2)) : stG way f g q G = G ∧ stK way f g q = [] := by
  obtain ⟨a, ae, b, be⟩ := q
  obtain ⟨ha, hb⟩ := hw
  have ha : a ≤ ae := ha
  have hb : b ≤ be := hb
  have y : ¬ (a < ae ∧ b < be) := y
  have bp := hd_b (f := f) (g := g) (a := a) (ae := ae) (b := b) (be := be)
  have p0 : hq f g (a, ae, b, be) = 0 := by
    show hd f g a ae b be = 0
    omega
  have q0 : tq f g (a, ae, b, be) = 0 := by
    have bq := tl_b (f := f) (g := g) (a := a + hq f g (a, ae, b, be)) (ae := ae) (b := b + hq f g (a, ae, b, be)) (be := be)
    show tl f g (a + hq f g (a, ae, b, be)) ae (b + hq f g (a, ae, b, be)) be = 0
    omega
  have pz : ∀ (i j : Nat) (G : Nat → Int), pr i j 0 G = G := fun i j G => by
    funext x
    unfold pr
    rw [if_neg (by omega)]
  have hP : ∀ k, -1 ≤ ptn f g a ae b be k := fun k => by
    rcases ptn_c (f := f) (g := g) (a := a) (ae := ae) (b := b) (be := be) (k := k) with z | ⟨j, z1, z2, z3, z4⟩
    · omega
    · omega
  have l0 : lgs (ptn f g a ae b be) ae (ae - a) = 0 := by
    refine ((lgs_0 hP (ae - a) a (by omega)).2).mpr ?_
    cases hl : lsP (ptn f g a ae b be) a (ae - a) with
    | nil => rfl
    | cons k t =>
      exfalso
      have z := lsP_in (ae - a) a k (by rw [hl]; exact List.mem_cons_self)
      rcases ptn_c (f := f) (g := g) (a := a) (ae := ae) (b := b) (be := be) (k := k) with z' | ⟨j, z1, z2, z3, z4⟩
      · exact z.2.2 z'
      · omega
  have r0 : rst f g a ae b be = -1 := by
    rcases rst_c (f := f) (g := g) (b := b) (be := be) ha with z | ⟨k, j, e0, k1, k2, e2, j1, j2, e3⟩
    · exact z
    · omega
  have m0 : mkG way f g a ae b be G = G ∧ mkK way f g a ae b be = [] := by
    unfold mkG mkK
    by_cases y1 : way = 1
    · rw [if_pos y1, if_pos y1, if_pos l0, if_pos l0]
      exact ⟨wk_e y _, rfl⟩
    · rw [if_neg y1, if_neg y1, if_pos r0, if_pos r0]
      exact ⟨wk_e y _, rfl⟩
  unfold stG stK
  rw [p0, q0]
  dsimp only
  rw [pz, pz, Nat.add_zero, Nat.add_zero, Nat.sub_zero, Nat.sub_zero]
  by_cases y0 : way = 0
  · rw [if_pos y0, if_pos y0]
    exact ⟨wk_e y _, rfl⟩
  · rw [if_neg y0, if_neg y0]
    exact m0
theorem ref_step {way : Int} {f g : Nat → Int} {n : Nat} {q : St} {T : List St} {G : Nat → Int} (H : PS n (T ++ [q])) : (T ++ [q]).foldl (fun G r => fnl way f g n r G) G = (T ++ stK way f g q).foldl (fun G r => fnl way f g n r G) (stG way f g q G) ∧ PS n (T ++ stK way f g q) ∧ ms (T ++ stK way f g q) < ms (T ++ [q]) := by
  obtain ⟨h1, h2⟩ := H
  obtain ⟨h4, -, h3⟩ := List.pairwise_append.mp h2
  have hq := h1 q (List.mem_append.mpr (Or.inr List.mem_cons_self))
  have hT : PS n T := ⟨fun r hr => h1 r (List.mem_append.mpr (Or.inl hr)), h4⟩
  have hd : ∀ r, r ∈ T → DJ q r := fun r hr => DJ_s (h3 r hr q List.mem_cons_self)
  obtain ⟨k1, k2, k3⟩ := kid_f (way := way) (f := f) (g := g) hq.1
  refine ⟨?_, PS_kids hq.1 hq.2 hT hd, ?_⟩
  · rw [List.foldl_append, List.foldl_append]
    show fnl way f g n q (T.foldl (fun G r => fnl way f g n r G) G) = _
    rw [← fld_x hq.1 T G (fun r hr => ⟨(hT.1 r hr).1, hd r hr⟩)]
    by_cases y : q.1 < q.2.1 ∧ q.2.2.1 < q.2.2.2
    · rw [fnl_k hq.1 hq.2 y, fld_xx _ _ _ (fun r hr => (k1 r hr).1) (fun r hr => (hT.1 r hr).1) (fun r t hr ht => by
        have z := k1 r hr
        have d := hd t ht
        unfold DJ at d ⊢
        omega)]
    · obtain ⟨e1, e2⟩ := emp_s (way := way) (f := f) (g := g) (G := G) hq.1 y
      rw [fnl_e y, e1, e2]
      rfl
  · rw [ms_app, ms_app]
    show ms T + ms (stK way f g q) < ms T + ((2 * (q.2.1 - q.1) + 1) + 0)
    omega
/-- pairs in order -/
def IR (f g : Nat → Int) (a ae b be : Nat) (F : Nat → Int) : Prop := (∀ x, a ≤ x → x < ae → F x = -1 ∨ ∃ y : Nat, F x = (y : Int) ∧ b ≤ y ∧ y < be ∧ f x = g y) ∧ ∀ x x', a ≤ x → x < x' → x' < ae → ¬ F x = -1 → ¬ F x' = -1 → F x < F x'
theorem IR_n {f g F : Nat → Int} {a ae b be : Nat} (h : ∀ x, a ≤ x → x < ae → F x = -1) : IR f g a ae b be F := ⟨fun x h1 h2 => Or.inl (h x h1 h2), fun x x' h1 h2 h3 h4 _ => absurd (h x h1 (by omega)) h4⟩
theorem IR_w {f g F : Nat → Int} {a ae b be b' be' : Nat} (H : IR f g a ae b be F) (h1 : b' ≤ b) (h2 : be ≤ be') : IR f g a ae b' be' F := ⟨fun x y1 y2 => by
  rcases H.1 x y1 y2 with z | ⟨y, z1, z2, z3, z4⟩
  · exact Or.inl z
  · exact Or.inr ⟨y, z1, by omega, by omega, z4⟩, H.2⟩
theorem IR_cg {f g F F' : Nat → Int} {a ae b be : Nat} (H : IR f g a ae b be F) (h : ∀ x, a ≤ x → x < ae → F' x = F x) : IR f g a ae b be F' := ⟨fun x y1 y2 => by rw [h x y1 y2]; exact H.1 x y1 y2, fun x x' y1 y2 y3 => by rw [h x y1 (by omega), h x' (by omega) y3]; exact H.2 x x' y1 y2 y3⟩
theorem IR_glue {f g F : Nat → Int} {a m ae b p be : Nat} (H1 : IR f g a m b p F) (H2 : IR f g m ae p be F) (h1 : b ≤ p) (h2 : p ≤ be) : IR f g a ae b be F := by
  refine ⟨fun x y1 y2 => ?_, fun x x' y1 y2 y3 n1 n2 => ?_⟩
  · by_cases y : x < m
    · rcases H1.1 x y1 y with z | ⟨w, z1, z2, z3, z4⟩
      · exact Or.inl z
      · exact Or.inr ⟨w, z1, z2, by omega, z4⟩
    · rcases H2.1 x (by omega) y2 with z | ⟨w, z1, z2, z3, z4⟩
      · exact Or.inl z
      · exact Or.inr ⟨w, z1, by omega, z3, z4⟩
  · by_cases y : x' < m
    · exact H1.2 x x' y1 y2 y n1 n2
    · by_cases y4 : x < m
      · rcases H1.1 x y1 y4 with z | ⟨w, z1, z2, z3, z4⟩
        · exact absurd z n1
        · rcases H2.1 x' (by omega) y3 with z' | ⟨w', z1', z2', z3', z4'⟩
          · exact absurd z' n2
          · omega
      · exact H2.2 x x' (by omega) y2 y3 n1 n2
theorem IR_run {f g F : Nat → Int} {i j n : Nat} (h : ∀ d, d < n → F (i + d) = ((j + d : Nat) : Int) ∧ f (i + d) = g (j + d)) : IR f g i (i + n) j (j + n) F := by
  refine ⟨fun x y1 y2 => ?_, fun x x' y1 y2 y3 n1 n2 => ?_⟩
  · have z := h (x - i) (by omega)
    rw [show i + (x - i) = x by omega] at z
    exact Or.inr ⟨j + (x - i), z.1, by omega, by omega, z.2⟩
  · have z := h (x - i) (by omega)
    rw [show i + (x - i) = x by omega] at z
    have z' := h (x' - i) (by omega)
    rw [show i + (x' - i) = x' by omega] at z'
    rw [z.1, z'.1]
    omega
theorem IR_wk {f g : Nat → Int} {ae be : Nat} : ∀ (w i j : Nat) (G : Nat → Int), j ≤ be → (∀ x, i ≤ x → x < ae → G x = -1) → IR f g i ae j be (wk f g ae be w i j G) := by
  intro w
  induction w with
  | zero => intro i j G _ h; exact IR_n h
  | succ w ih =>
    intro i j G hj h
    rw [wk_s]
    by_cases y : i < ae ∧ j < be
    · rw [if_pos y]
      by_cases y1 : f i = g j
      · rw [if_pos y1]
        have z := ih (i + 1) (j + 1) (updG G i j) (by omega) (fun x h1 h2 => by unfold updG; rw [if_neg (by omega)]; exact h x (by omega) h2)
        have e : wk f g ae be w (i + 1) (j + 1) (updG G i j) i = (j : Int) := by
          rw [(LOC_wk w (i + 1) (j + 1)).1 _ i (by omega)]
          unfold updG
          rw [if_pos rfl]
        refine IR_glue (m := i + 1) (p := j + 1) (IR_run (n := 1) (fun d hd => ?_)) z (by omega) (by omega)
        rw [show d = 0 by omega, Nat.add_zero, Nat.add_zero]
        exact ⟨e, y1⟩
      · rw [if_neg y1]
        by_cases y2 : lt f g ae be (ae - (i + 1)) (be - j) = lt f g ae be (ae - i) (be - j)
        · rw [if_pos y2]
          have z := ih (i + 1) j G hj (fun x h1 h2 => h x (by omega) h2)
          refine IR_glue (m := i + 1) (p := j) (IR_n (fun x h1 h2 => ?_)) z (Nat.le_refl j) hj
          rw [(LOC_wk w (i + 1) j).1 _ x (by omega)]
          exact h x h1 (by omega)
        · rw [if_neg y2]
          exact IR_w (ih i (j + 1) G (by omega) h) (by omega) (Nat.le_refl be)
    · rw [if_neg y]
      exact IR_n h
theorem IR_sel {way : Int} {f g P T : Nat → Int} {n ae be : Nat} (hP : ∀ k, P k = -1 ∨ ∃ p : Nat, P k = (p : Int) ∧ p < be ∧ g p = f k) (IHn : ∀ (q : St) (G : Nat → Int), wfS q → (∀ x, q.1 ≤ x → x < q.2.1 → G x = -1) → IR f g q.1 q.2.1 q.2.2.1 q.2.2.2 (fnl way f g n q G)) : ∀ (d k : Nat) (w : Int) (i j : Nat) (G : Nat → Int), k + d = ae → i ≤ k → j ≤ be → (∀ x, i ≤ x → x < ae → G x = -1) → IR f g i ae j be ((selK P T ae be d k w i j).foldl (fun G r => fnl way f g n r G) (selG P T d k w j G)) := by
  have hPb : ∀ x, P x < (be : Int) := fun x => by
    rcases hP x with z | ⟨p, z1, z2, -⟩
    · omega
    · omega
  intro d
  induction d with
  | zero =>
    intro k w i j G hk hi hj h
    exact IHn (i, ae, j, be) G ⟨by show i ≤ ae; omega, hj⟩ h
  | succ d ih =>
    intro k w i j G hk hi hj h
    rw [selK_s, selG_s]
    by_cases y0 : 0 < w
    · rw [if_pos y0, if_pos y0]
      by_cases y : T k = w ∧ (j : Int) ≤ P k
      · rw [if_pos y, if_pos y, List.foldl_cons]
        rcases hP k with z | ⟨p, z1, z2, z3⟩
        · omega
        · have hp : (P k).toNat = p := by omega
          rw [hp, LOC_x (LOC_fnl n (i, k, j, p) ⟨hi, by show j ≤ p; omega⟩) (LOC_selG d (k + 1) (w - 1) (p + 1)) (Or.inl (by show k ≤ k + 1; omega))]
          have L0 := LOC_fnl (way := way) (f := f) (g := g) n (i, k, j, p) ⟨hi, by show j ≤ p; omega⟩
          have I0 := IHn (i, k, j, p) (updG G k (P k)) ⟨hi, by show j ≤ p; omega⟩ (fun x h1 h2 => by
            have h2 : x < k := h2
            unfold updG
            rw [if_neg (by omega)]
            exact h x h1 (by omega))
          have gk : fnl way f g n (i, k, j, p) (updG G k (P k)) k = (p : Int) := by
            rw [L0.1 _ k (by show ¬ (i ≤ k ∧ k < k); omega)]
            unfold updG
            rw [if_pos rfl]
            exact z1
          have gr : ∀ x, k + 1 ≤ x → x < ae → fnl way f g n (i, k, j, p) (updG G k (P k)) x = -1 := fun x h1 h2 => by
            rw [L0.1 _ x (by show ¬ (i ≤ x ∧ x < k); omega)]
            unfold updG
            rw [if_neg (by omega)]
            exact h x (by omega) h2
          have I0 : IR f g i k j p (fnl way f g n (i, k, j, p) (updG G k (P k))) := I0
          generalize fnl way f g n (i, k, j, p) (updG G k (P k)) = G2 at I0 gk gr ⊢
          have I1 := ih (k + 1) (w - 1) (k + 1) (p + 1) G2 (by omega) (Nat.le_refl _) (by omega) gr
          have c := CHN_p _ _ _ (selK_c (T := T) (ae := ae) (be := be) hPb d (k + 1) (w - 1) (k + 1) (p + 1) (by omega) (Nat.le_refl _) (by omega))
          have LL : LOC (fun G => (selK P T ae be d (k + 1) (w - 1) (k + 1) (p + 1)).foldl (fun G r => fnl way f g n r G) (selG P T d (k + 1) (w - 1) (p + 1) G)) (k + 1) ae := LOC_c (LOC_m (LOC_selG d (k + 1) (w - 1) (p + 1)) (Nat.le_refl _) (by omega)) (LOC_fld (F := fun r G => fnl way f g n r G) _ (fun r hr => by
            have z := c.2.2.1 r hr
            exact LOC_m (LOC_fnl n r ⟨by omega, by omega⟩) (by omega) (by omega)))
          refine IR_glue (m := k) (p := p) (IR_cg I0 (fun x h1 h2 => LL.1 G2 x (by omega))) (IR_glue (m := k + 1) (p := p + 1) (IR_run (n := 1) (fun e he => ?_)) I1 (by omega) (by omega)) (by omega) (by omega)
          have he0 : e = 0 := by omega
          subst he0
          exact ⟨(LL.1 G2 k (by omega)).trans gk, z3.symm⟩
      · rw [if_neg y, if_neg y]
        exact ih (k + 1) w i j G (by omega) (by omega) hj h
    · rw [if_neg y0, if_neg y0]
      exact IHn (i, ae, j, be) G ⟨by show i ≤ ae; omega, hj⟩ h
theorem IR_mid {way : Int} {f g : Nat → Int} {n a ae b be : Nat} {G : Nat → Int} (IHn : ∀ (q : St) (G : Nat → Int), wfS q → (∀ x, q.1 ≤ x → x < q.2.1 → G x = -1) → IR f g q.1 q.2.1 q.2.2.1 q.2.2.2 (fnl way f g n q G)) (ha : a ≤ ae) (hb : b ≤ be) (h : ∀ x, a ≤ x → x < ae → G x = -1) : IR f g a ae b be ((mkK way f g a ae b be).foldl (fun G r => fnl way f g n r G) (mkG way f g a ae b be G)) := by
  by_cases y1 : way = 1
  · by_cases y2 : lgs (ptn f g a ae b be) ae (ae - a) = 0
    · unfold mkK mkG
      rw [if_pos y1, if_pos y1, if_pos y2, if_pos y2]
      exact IR_wk _ _ _ _ hb h
    · unfold mkK mkG
      rw [if_pos y1, if_pos y1, if_neg y2, if_neg y2]
      exact IR_sel (fun k => by
        rcases ptn_c (f := f) (g := g) (a := a) (ae := ae) (b := b) (be := be) (k := k) with z | ⟨j, z1, z2, z3, z4⟩
        · exact Or.inl z
        · exact Or.inr ⟨j, z1, z3, z4⟩) IHn _ _ _ _ _ _ (by omega) (Nat.le_refl a) hb h
  · by_cases y2 : rst f g a ae b be = -1
    · unfold mkK mkG
      rw [if_neg y1, if_neg y1, if_pos y2, if_pos y2]
      exact IR_wk _ _ _ _ hb h
    · rcases rst_c (f := f) (g := g) (b := b) (be := be) ha with h' | ⟨k, j, e0, k1, k2, e2, j1, j2, e3⟩
      · exact absurd h' y2
      · have ek : (rst f g a ae b be).toNat = k := by omega
        have ej : (fnd g (f k) b (be - b)).toNat = j := by omega
        obtain ⟨t, ht⟩ : ∃ t, t = tl f g a k b j := ⟨_, rfl⟩
        obtain ⟨u, hu⟩ : ∃ u, u = hd f g k ae j be := ⟨_, rfl⟩
        have bt := tl_b (f := f) (g := g) (a := a) (ae := k) (b := b) (be := j)
        have bu := hd_b (f := f) (g := g) (a := k) (ae := ae) (b := j) (be := be)
        rw [← ht] at bt
        rw [← hu] at bu
        have eK : mkK way f g a ae b be = [(a, k - t, b, j - t), (k + u, ae, j + u, be)] := by
          unfold mkK rrr
          rw [if_neg y1, if_neg y2, ek, ej, ht, hu]
          rfl
        have eG : mkG way f g a ae b be G = pr (k - t) (j - t) (t + u) G := by
          unfold mkG rrr
          rw [if_neg y1, if_neg y2, ek, ej, ht, hu]
          rfl
        rw [eK, eG]
        show IR f g a ae b be (fnl way f g n (k + u, ae, j + u, be) (fnl way f g n (a, k - t, b, j - t) (pr (k - t) (j - t) (t + u) G)))
        have w1 : wfS (a, k - t, b, j - t) := ⟨by show a ≤ k - t; omega, by show b ≤ j - t; omega⟩
        have w2 : wfS (k + u, ae, j + u, be) := ⟨by show k + u ≤ ae; omega, by show j + u ≤ be; omega⟩
        have L1 := LOC_fnl (way := way) (f := f) (g := g) n _ w1
        have L2 := LOC_fnl (way := way) (f := f) (g := g) n _ w2
        have x1 : ∀ G x, ¬ (a ≤ x ∧ x < k - t) → fnl way f g n (a, k - t, b, j - t) G x = G x := fun G x hx => L1.1 G x hx
        have x2 : ∀ G x, ¬ (k + u ≤ x ∧ x < ae) → fnl way f g n (k + u, ae, j + u, be) G x = G x := fun G x hx => L2.1 G x hx
        have I1 : IR f g a (k - t) b (j - t) (fnl way f g n (a, k - t, b, j - t) (pr (k - t) (j - t) (t + u) G)) := IHn _ _ w1 (fun x h1 h2 => by
          have h1 : a ≤ x := h1
          have h2 : x < k - t := h2
          unfold pr
          rw [if_neg (by omega)]
          exact h x h1 (by omega))
        have I2 : IR f g (k + u) ae (j + u) be (fnl way f g n (k + u, ae, j + u, be) (fnl way f g n (a, k - t, b, j - t) (pr (k - t) (j - t) (t + u) G))) := IHn _ _ w2 (fun x h1 h2 => by
          have h1 : k + u ≤ x := h1
          have h2 : x < ae := h2
          rw [x1 _ x (by omega)]
          unfold pr
          rw [if_neg (by omega)]
          exact h x (by omega) h2)
        refine IR_glue (m := k - t) (p := j - t) (IR_cg I1 (fun x h1 h2 => x2 _ x (by omega))) (IR_glue (m := k + u) (p := j + u) ?_ I2 (by omega) (by omega)) (by omega) (by omega)
        have R := IR_run (f := f) (g := g) (F := fnl way f g n (k + u, ae, j + u, be) (fnl way f g n (a, k - t, b, j - t) (pr (k - t) (j - t) (t + u) G))) (i := k - t) (j := j - t) (n := t + u) (fun d hd => by
          refine ⟨?_, ?_⟩
          · rw [x2 _ _ (by omega), x1 _ _ (by omega)]
            unfold pr
            rw [if_pos (by omega)]
            congr 1
            omega
          · by_cases y : d < t
            · have z := bt.2.2.1 (t - 1 - d) (by omega)
              rw [show k - 1 - (t - 1 - d) = k - t + d by omega, show j - 1 - (t - 1 - d) = j - t + d by omega] at z
              exact z
            · have z := bu.2.2.1 (d - t) (by omega)
              rw [show k + (d - t) = k - t + d by omega, show j + (d - t) = j - t + d by omega] at z
              exact z)
        rw [show k - t + (t + u) = k + u by omega, show j - t + (t + u) = j + u by omega] at R
        exact R
theorem IR_fnl {way : Int} {f g : Nat → Int} : ∀ (n : Nat) (q : St) (G : Nat → Int), wfS q → (∀ x, q.1 ≤ x → x < q.2.1 → G x = -1) → IR f g q.1 q.2.1 q.2.2.1 q.2.2.2 (fnl way f g n q G) := by
  intro n
  induction n with
  | zero => intro q G _ h; exact IR_n h
  | succ n ih =>
    intro q G hw h
    by_cases y : q.1 < q.2.1 ∧ q.2.2.1 < q.2.2.2
    · rw [fnl_s, if_pos y]
      obtain ⟨a, ae, b, be⟩ := q
      have ha : a < ae := y.1
      have hb : b < be := y.2
      have h : ∀ x, a ≤ x → x < ae → G x = -1 := h
      show IR f g a ae b be ((stK way f g (a, ae, b, be)).foldl (fun G r => fnl way f g n r G) (stG way f g (a, ae, b, be) G))
      by_cases y0 : way = 0
      · unfold stK stG
        rw [if_pos y0, if_pos y0]
        exact IR_wk _ _ _ _ (by omega) h
      · obtain ⟨p, hp⟩ : ∃ p, p = hd f g a ae b be := ⟨_, rfl⟩
        obtain ⟨t, ht⟩ : ∃ t, t = tl f g (a + p) ae (b + p) be := ⟨_, rfl⟩
        have bp := hd_b (f := f) (g := g) (a := a) (ae := ae) (b := b) (be := be)
        rw [← hp] at bp
        have bq := tl_b (f := f) (g := g) (a := a + p) (ae := ae) (b := b + p) (be := be)
        rw [← ht] at bq
        have eK : stK way f g (a, ae, b, be) = mkK way f g (a + p) (ae - t) (b + p) (be - t) := by
          unfold stK
          rw [if_neg y0, ht, hp]
          rfl
        have eG : stG way f g (a, ae, b, be) G = mkG way f g (a + p) (ae - t) (b + p) (be - t) (pr (ae - t) (be - t) t (pr a b p G)) := by
          unfold stG
          rw [if_neg y0, ht, hp]
          rfl
        rw [eK, eG]
        have g0 : ∀ x, a + p ≤ x → x < ae - t → pr (ae - t) (be - t) t (pr a b p G) x = -1 := fun x h1 h2 => by
          unfold pr
          rw [if_neg (by omega), if_neg (by omega)]
          exact h x (by omega) (by omega)
        have g1 : ∀ d, d < p → pr (ae - t) (be - t) t (pr a b p G) (a + d) = ((b + d : Nat) : Int) := fun d hd => by
          unfold pr
          rw [if_neg (by omega), if_pos (by omega)]
          congr 1
          omega
        have g2 : ∀ d, d < t → pr (ae - t) (be - t) t (pr a b p G) (ae - t + d) = ((be - t + d : Nat) : Int) := fun d hd => by
          unfold pr
          rw [if_pos (by omega)]
          congr 1
          omega
        generalize pr (ae - t) (be - t) t (pr a b p G) = G1 at g0 g1 g2 ⊢
        have I := IR_mid (way := way) (n := n) (G := G1) ih (show a + p ≤ ae - t by omega) (show b + p ≤ be - t by omega) g0
        have LL : LOC (fun G => (mkK way f g (a + p) (ae - t) (b + p) (be - t)).foldl (fun G r => fnl way f g n r G) (mkG way f g (a + p) (ae - t) (b + p) (be - t) G)) (a + p) (ae - t) := by
          refine LOC_c (LOC_mkG (by omega)) (LOC_fld (F := fun r G => fnl way f g n r G) _ (fun r hr => ?_))
          rcases mkK_c (way := way) (f := f) (g := g) (show a + p ≤ ae - t by omega) (show b + p ≤ be - t by omega) with z | ⟨-, z⟩
          · rw [z] at hr
            cases hr
          · have c := (CHN_p _ _ _ z).2.2.1 r hr
            exact LOC_m (LOC_fnl n r ⟨by omega, by omega⟩) (by omega) (by omega)
        have out : ∀ x, ¬ (a + p ≤ x ∧ x < ae - t) → ((mkK way f g (a + p) (ae - t) (b + p) (be - t)).foldl (fun G r => fnl way f g n r G) (mkG way f g (a + p) (ae - t) (b + p) (be - t) G1)) x = G1 x := fun x hx => LL.1 G1 x hx
        generalize ((mkK way f g (a + p) (ae - t) (b + p) (be - t)).foldl (fun G r => fnl way f g n r G) (mkG way f g (a + p) (ae - t) (b + p) (be - t) G1)) = F at I out ⊢
        refine IR_glue (m := a + p) (p := b + p) (IR_run (fun d hd => ⟨by rw [out _ (by omega)]; exact g1 d hd, bp.2.2.1 d hd⟩)) (IR_glue (m := ae - t) (p := be - t) I ?_ (by omega) (by omega)) (by omega) (by omega)
        have R := IR_run (f := f) (g := g) (F := F) (i := ae - t) (j := be - t) (n := t) (fun d hd => ⟨by rw [out _ (by omega)]; exact g2 d hd, by
          have z := bq.2.2.1 (t - 1 - d) (by omega)
          rw [show ae - 1 - (t - 1 - d) = ae - t + d by omega, show be - 1 - (t - 1 - d) = be - t + d by omega] at z
          exact z⟩)
        rw [show ae - t + t = ae by omega, show be - t + t = be by omega] at R
        exact R
    · rw [fnl_e y]
      exact IR_n h
/-- what is paired with what -/
def mtc (way : Int) (f g : Nat → Int) (n1 n2 : Nat) : Nat → Int := fnl way f g 40 (0, n1, 0, n2) (fun _ => -1)
theorem mtc_GD {way : Int} {f g : Nat → Int} {n1 n2 : Nat} : GD f g n1 n2 (mtc way f g n1 n2) := by
  have I : IR f g 0 n1 0 n2 (mtc way f g n1 n2) := IR_fnl 40 (0, n1, 0, n2) (fun _ => -1) ⟨Nat.zero_le _, Nat.zero_le _⟩ (fun _ _ _ => rfl)
  refine ⟨⟨fun i hi => ?_, fun i i' h1 h2 n1 n2 => I.2 i i' (Nat.zero_le _) h1 h2 n1 n2⟩, fun x hx hn => ?_⟩
  · rcases I.1 i (Nat.zero_le _) hi with z | ⟨y, z1, z2, z3, z4⟩
    · exact Or.inl z
    · exact Or.inr (by omega)
  · rcases I.1 x (Nat.zero_le _) hx with z | ⟨y, z1, z2, z3, z4⟩
    · exact absurd z hn
    · rw [z1, tn]
      exact z4
end
