/-! Which line a line was: source. -/
noncomputable section
/-- the hunk that adds a line -/
theorem d312n {σ : Sg} {l : List St} {p : Nat} (K : HK σ 0 0 l) (hl : l.length ≤ 120) (z : σ 704 0 = (l.length : Nat)) (hp : p ≤ 1000) (hb : ∀ (h : Nat) (q : St), l[h]? = some q → q.2.2.1 + q.2.2.2 ≤ 200) : ∃ v : Int, Dd 312 [vA 682, vI 1, vI p] σ (rI v σ) ∧ ((v = -1 ∧ ∀ (h : Nat) (q : St), l[h]? = some q → ¬ (q.2.2.1 ≤ p ∧ p < q.2.2.1 + q.2.2.2)) ∨ ∃ (h : Nat) (q : St), v = (h : Int) ∧ l[h]? = some q ∧ q.2.2.1 ≤ p ∧ p < q.2.2.1 + q.2.2.2) := by
  have L : ∀ (d h : Nat) (x3 : Int) (d5 : Option AV), h + d = l.length → ((x3 = -1 ∧ ∀ (h' : Nat) (q : St), h' < h → l[h']? = some q → ¬ (q.2.2.1 ≤ p ∧ p < q.2.2.1 + q.2.2.2)) ∨ ∃ (h' : Nat) (q : St), x3 = (h' : Int) ∧ l[h']? = some q ∧ q.2.2.1 ≤ p ∧ p < q.2.2.1 + q.2.2.2) → ∃ v : Int, C312_5 1 p x3 h d5 σ (rI v σ) ∧ ((v = -1 ∧ ∀ (h : Nat) (q : St), l[h]? = some q → ¬ (q.2.2.1 ≤ p ∧ p < q.2.2.1 + q.2.2.2)) ∨ ∃ (h : Nat) (q : St), v = (h : Int) ∧ l[h]? = some q ∧ q.2.2.1 ≤ p ∧ p < q.2.2.1 + q.2.2.2) := by
    intro d
    induction d with
    | zero =>
      intro h x3 d5 hh inv
      refine ⟨x3, b312_5 ?_, ?_⟩
      · rw [show ((0 : Int)).toNat = 0 from rfl, z, if_neg (by omega)]
      · rcases inv with ⟨i1, i2⟩ | i
        · exact Or.inl ⟨i1, fun h' q hq => i2 h' q (by have := (List.getElem?_eq_some_iff.mp hq).1; omega) hq⟩
        · exact Or.inr i
    | succ d ih =>
      intro h x3 d5 hh inv
      obtain ⟨q, hq⟩ : ∃ q, l[h]? = some q := ⟨l[h], List.getElem?_eq_getElem (by omega)⟩
      obtain ⟨v0, v1, v2, v3⟩ := HK_at K hq
      have bq := hb h q hq
      have st : ∀ {o : Rs} (y : Int), C312_79 1 p (some (vI x3)) h (some (vI (q.2.2.1 : Nat))) y σ o → (y = if q.2.2.1 ≤ p ∧ p < q.2.2.1 + q.2.2.2 then (h : Int) else x3) → C312_5 1 p x3 h d5 σ o := fun {o} y hy ey => by
        refine b312_5 ?_
        rw [show ((0 : Int)).toNat = 0 from rfl, z, if_pos (by omega)]
        refine ⟨fun e => absurd e (by decide), fun _ => by omega, ?_⟩
        rw [if_neg (show ¬ (1 : Int) = 0 by decide), tn, v2]
        refine b312_37 ?_
        by_cases y1 : q.2.2.1 ≤ p
        · rw [if_pos (by omega)]
          refine ⟨fun e => absurd e (by decide), fun _ => by omega, ?_⟩
          rw [if_neg (show ¬ (1 : Int) = 0 by decide), tn, v3]
          refine b312_69 ⟨by omega, ?_⟩
          by_cases y2 : p < q.2.2.1 + q.2.2.2
          · rw [if_pos ⟨y1, y2⟩] at ey
            rw [if_pos (by omega)]
            rw [ey] at hy
            exact hy
          · rw [if_neg (fun e => y2 e.2)] at ey
            rw [if_neg (by omega)]
            refine b312_78 ?_
            rw [ey] at hy
            exact hy
        · rw [if_neg (fun e => y1 e.1)] at ey
          rw [if_neg (by omega)]
          refine b312_78 ?_
          rw [ey] at hy
          exact hy
      obtain ⟨v, a1, a2⟩ := ih (h + 1) (if q.2.2.1 ≤ p ∧ p < q.2.2.1 + q.2.2.2 then (h : Int) else x3) (some (vI (q.2.2.1 : Nat))) (by omega) (by
        by_cases y : q.2.2.1 ≤ p ∧ p < q.2.2.1 + q.2.2.2
        · rw [if_pos y]
          exact Or.inr ⟨h, q, rfl, hq, y⟩
        · rw [if_neg y]
          rcases inv with ⟨i1, i2⟩ | i
          · refine Or.inl ⟨i1, fun h' q' hlt hq' => ?_⟩
            by_cases e : h' = h
            · subst e
              rw [hq] at hq'
              cases hq'
              exact y
            · exact i2 h' q' (by omega) hq'
          · exact Or.inr i)
      refine ⟨v, st _ (b312_79 ⟨by omega, ?_⟩) rfl, a2⟩
      rw [show (h : Int) + 1 = ((h + 1 : Nat) : Int) by omega]
      exact a1
  obtain ⟨v, a1, a2⟩ := L l.length 0 (-1) none (by omega) (Or.inl ⟨rfl, fun h' q h => absurd h (Nat.not_lt_zero h')⟩)
  exact ⟨v, b312 a1, a2⟩
/-- a new line that has no partner is one that a hunk adds -/
theorem DS_nc {F K : Nat → Int} {nb na n : Nat} {l : List St} (D : DS F nb na l 0 0 0) (I : IV F K nb na) (hn : n < na) (h : K n = -1) : ∃ (h : Nat) (q : St), l[h]? = some q ∧ q.2.2.1 ≤ n ∧ n < q.2.2.1 + q.2.2.2 := by
  by_cases y : ∃ (h : Nat) (q : St), l[h]? = some q ∧ q.2.2.1 ≤ n ∧ n < q.2.2.1 + q.2.2.2
  · exact y
  · exfalso
    obtain ⟨x, w1, w2, w3⟩ := DS_on l 0 0 0 n D (Nat.zero_le _) hn (fun q hq => by
      obtain ⟨h, hh⟩ := List.getElem?_of_mem hq
      by_cases z : n < q.2.2.1 ∨ q.2.2.1 + q.2.2.2 ≤ n
      · exact z
      · exact absurd ⟨h, q, hh, by omega, by omega⟩ y)
    have z := IV_at I w2 w3
    omega
def fsr (O N F K : Nat → Int) (nb na n : Nat) : Nat → Nat → Int
  | 0, _ => -1
  | d + 1, i => if O i = N n ∧ goalZ O N F K nb na i = (n : Int) then (i : Int) else fsr O N F K nb na n d (i + 1)
def bsd (n : Nat) : List St → Int
  | [] => -1
  | q :: t => if q.2.2.1 ≤ n ∧ n < q.2.2.1 + q.2.2.2 then (q.1 : Int) + n - (q.2.2.1 : Nat) else bsd n t
def srcZ (O N F K : Nat → Int) (nb na : Nat) (l : List St) (n : Nat) : Int := if ¬ K n = -1 then K n else if ¬ fsr O N F K nb na n nb 0 = -1 then fsr O N F K nb na n nb 0 else if ofZ O N l = true then bsd n l else -1
theorem bsd_at {F : Nat → Int} {nb na n : Nat} : ∀ (l : List St) (i j e : Nat), DS F nb na l i j e → ∀ (h : Nat) (q : St), l[h]? = some q → q.2.2.1 ≤ n → n < q.2.2.1 + q.2.2.2 → bsd n l = (q.1 : Int) + n - (q.2.2.1 : Nat) := by
  intro l
  induction l with
  | nil => intro i j e _ h q hq; cases hq
  | cons r t ih =>
    intro i j e D h q hq h1 h2
    obtain ⟨v1, v2, v3, v4, v5, v6⟩ := D
    cases h with
    | zero =>
      rw [List.getElem?_cons_zero] at hq
      cases hq
      show (if r.2.2.1 ≤ n ∧ n < r.2.2.1 + r.2.2.2 then (r.1 : Int) + n - (r.2.2.1 : Nat) else bsd n t) = _
      rw [if_pos ⟨h1, h2⟩]
    | succ h =>
      rw [List.getElem?_cons_succ] at hq
      have b := (DS_b _ _ _ _ v6).2.2 q (List.mem_of_getElem? hq)
      show (if r.2.2.1 ≤ n ∧ n < r.2.2.1 + r.2.2.2 then (r.1 : Int) + n - (r.2.2.1 : Nat) else bsd n t) = _
      rw [if_neg (by omega)]
      exact ih _ _ _ v6 h q hq h1 h2
/-- besides -/
theorem d125 {σ : Sg} {P n : Nat} {l : List St} (hP : isPatch P = true) (w9 : wR σ (P + 9)) (C : PC σ P l) (hn : n ≤ 100) : Dd 125 [vA P, vI n] σ (rI (bsd n l) σ) := by
  have hlen : 4 * l.length ≤ 5000 := by
    have := cap_le w9.1
    have := w9.2.2
    have := C.1
    omega
  have L : ∀ (w h : Nat), h + w = l.length → C125_2 P n h σ (rI (bsd n (l.drop h)) σ) := by
    intro w
    induction w with
    | zero =>
      intro h hh
      refine b125_2 hP ⟨_, _, d98' hP C, ?_⟩
      rw [if_neg (by omega), List.drop_eq_nil_of_le (by omega)]
      rfl
    | succ w ih =>
      intro h hh
      have hlt : h < l.length := by omega
      obtain ⟨q, hq⟩ : ∃ q, l[h]? = some q := ⟨l[h], List.getElem?_eq_getElem hlt⟩
      have hd : l.drop h = q :: l.drop (h + 1) := by
        rw [List.drop_eq_getElem_cons hlt]
        rw [List.getElem?_eq_getElem hlt] at hq
        rw [Option.some.inj hq]
      obtain ⟨e100, -, e103, e105⟩ := pc_at hP w9 C hq
      have bq := C.2.2 h q hq
      have e : bsd n (l.drop h) = if q.2.2.1 ≤ n ∧ n < q.2.2.1 + q.2.2.2 then (q.1 : Int) + n - (q.2.2.1 : Nat) else bsd n (l.drop (h + 1)) := by
        rw [hd]
        rfl
      have t42 : ¬ (q.2.2.1 ≤ n ∧ n < q.2.2.1 + q.2.2.2) → C125_42 P n h σ (rI (bsd n (l.drop h)) σ) := fun y => by
        refine b125_42 ⟨by omega, ?_⟩
        rw [e, if_neg y, show (h : Int) + 1 = ((h + 1 : Nat) : Int) by omega]
        exact ih (h + 1) (by omega)
      refine b125_2 hP ⟨_, _, d98' hP C, ?_⟩
      rw [if_pos (by omega)]
      refine ⟨_, _, e103, ?_⟩
      by_cases y1 : q.2.2.1 ≤ n
      · rw [if_pos (by omega)]
        refine ⟨_, _, e105, ?_⟩
        by_cases y2 : n < q.2.2.1 + q.2.2.2
        · rw [if_pos (by omega)]
          refine ⟨_, _, e100, by omega, _, _, e103, by omega, ?_⟩
          rw [e, if_pos ⟨y1, y2⟩]
        · rw [if_neg (by omega)]
          exact t42 (fun z => y2 z.2)
      · rw [if_neg (by omega)]
        exact t42 (fun z => y1 z.1)
  exact b125 (L l.length 0 (by omega))
/-- source -/
theorem d122 {σ : Sg} {P nb na n : Nat} (hP : isPatch P = true) (w : WF σ) (N : NP σ P nb na) (hb : nb ≤ 100) (ha : na ≤ 100) (lO : ∀ i, i < nb → isLn (σ (P + 2) i) = true) (lN : ∀ i, i < na → isLn (σ (P + 4) i) = true) (c11 : nb ≤ cap (P + 11)) (hn : n < na) : ∃ s, Dd 122 [vA P, vI n] σ (rI (srcZ (σ (P + 2)) (σ (P + 4)) (σ (P + 6)) (σ (P + 8)) nb na (hks (σ (P + 6)) nb na) n) s) ∧ WF s ∧ ∀ c k, ¬ c = P + 11 → ¬ c = P + 12 → s c k = σ c k := by
  have V : RVs σ P nb na (σ (P + 2)) (σ (P + 4)) (σ (P + 6)) (σ (P + 8)) := ⟨⟨WF_w w (pat_1 hP), N.1, fun _ _ => rfl⟩, ⟨WF_w w (pat_3 hP), N.2.1, fun _ _ => rfl⟩, ⟨WF_w w (pat_5 hP), N.2.2.1, fun _ _ => rfl⟩, ⟨WF_w w (pat_7 hP), N.2.2.2.1, fun _ _ => rfl⟩⟩
  have VF' := N.2.2.2.2.1
  have e147 := RV_147 V.2.2.2 hn
  by_cases y : σ (P + 8) n = -1
  · obtain ⟨s, a1, a2, a3, a4⟩ := d115 hP V hb ha lO lN c11
    have V' : RVs s P nb na (σ (P + 2)) (σ (P + 4)) (σ (P + 6)) (σ (P + 8)) := RVs_fr (fun c k h => a4 c k (by omega) (by omega)) V
    have KI : KIN s P nb na (σ (P + 2)) (σ (P + 4)) (σ (P + 6)) (σ (P + 8)) := ⟨V', ⟨pat_11 hP, by rw [a2]; omega⟩, a2, a3⟩
    have w9 : wR s (P + 9) := ⟨pat_9 hP, by rw [a4 _ _ (by omega) (by omega)]; exact (WF_w w (pat_9 hP)).2⟩
    have C : PC s P (hks (σ (P + 6)) nb na) := PC_fr (fun k => a4 _ _ (by omega) (by omega)) (fun k => a4 _ _ (by omega) (by omega)) (PC_of N hb ha)
    have D := DS_0 VF'
    have e123 := d123 hP V'.1 V'.2.1 w9 C (fun q hq => by
      have z := (DS_b _ _ _ _ D).2.2 q hq
      omega) hb ha lO lN
    have L : ∀ (d i : Nat), i + d = nb → C122_27 P n i s (rI (if ¬ fsr (σ (P + 2)) (σ (P + 4)) (σ (P + 6)) (σ (P + 8)) nb na n d i = -1 then fsr (σ (P + 2)) (σ (P + 4)) (σ (P + 6)) (σ (P + 8)) nb na n d i else if ofZ (σ (P + 2)) (σ (P + 4)) (hks (σ (P + 6)) nb na) = true then bsd n (hks (σ (P + 6)) nb na) else -1) s) := by
      intro d
      induction d with
      | zero =>
        intro i hi
        refine b122_27 hP ⟨_, _, RV_146 V'.1, ?_⟩
        rw [if_neg (by omega)]
        refine ⟨_, _, e123, ?_⟩
        rw [show fsr (σ (P + 2)) (σ (P + 4)) (σ (P + 6)) (σ (P + 8)) nb na n 0 i = -1 from rfl, if_neg (show ¬ ¬ (-1 : Int) = -1 from fun h => h rfl)]
        by_cases y2 : ofZ (σ (P + 2)) (σ (P + 4)) (hks (σ (P + 6)) nb na) = true
        · rw [if_pos y2, if_neg (show ¬ (1 : Int) = 0 by decide), if_pos y2]
          exact ⟨_, _, d125 hP w9 C (by omega), rfl⟩
        · rw [if_neg y2, if_pos rfl, if_neg y2]
      | succ d ih =>
        intro i hi
        have e : fsr (σ (P + 2)) (σ (P + 4)) (σ (P + 6)) (σ (P + 8)) nb na n (d + 1) i = if σ (P + 2) i = σ (P + 4) n ∧ goalZ (σ (P + 2)) (σ (P + 4)) (σ (P + 6)) (σ (P + 8)) nb na i = (n : Int) then (i : Int) else fsr (σ (P + 2)) (σ (P + 4)) (σ (P + 6)) (σ (P + 8)) nb na n d (i + 1) := rfl
        have t68 : ¬ (σ (P + 2) i = σ (P + 4) n ∧ goalZ (σ (P + 2)) (σ (P + 4)) (σ (P + 6)) (σ (P + 8)) nb na i = (n : Int)) → C122_68 P n i s (rI (if ¬ fsr (σ (P + 2)) (σ (P + 4)) (σ (P + 6)) (σ (P + 8)) nb na n (d + 1) i = -1 then fsr (σ (P + 2)) (σ (P + 4)) (σ (P + 6)) (σ (P + 8)) nb na n (d + 1) i else if ofZ (σ (P + 2)) (σ (P + 4)) (hks (σ (P + 6)) nb na) = true then bsd n (hks (σ (P + 6)) nb na) else -1) s) := fun z => by
          refine b122_68 ⟨by omega, ?_⟩
          rw [e, if_neg z, show (i : Int) + 1 = ((i + 1 : Nat) : Int) by omega]
          exact ih (i + 1) (by omega)
        refine b122_27 hP ⟨_, _, RV_146 V'.1, ?_⟩
        rw [if_pos (by omega)]
        refine ⟨_, _, RV_147 V'.1 (by omega), _, _, RV_147 V'.2.1 hn, ?_⟩
        by_cases y1 : σ (P + 2) i = σ (P + 4) n
        · rw [if_pos y1]
          refine ⟨_, _, d117 hP KI hb ha (by omega), ?_⟩
          by_cases y2 : goalZ (σ (P + 2)) (σ (P + 4)) (σ (P + 6)) (σ (P + 8)) nb na i = (n : Int)
          · have e1 : fsr (σ (P + 2)) (σ (P + 4)) (σ (P + 6)) (σ (P + 8)) nb na n (d + 1) i = (i : Int) := by rw [e, if_pos ⟨y1, y2⟩]
            rw [if_pos y2, e1, if_pos (show ¬ (i : Int) = -1 by omega)]
          · rw [if_neg y2]
            exact t68 (fun z => y2 z.2)
        · rw [if_neg y1]
          exact t68 (fun z => y1 z.1)
    refine ⟨s, b122 hP ⟨_, _, e147, ?_⟩, fun x hx => ?_, a4⟩
    · rw [if_pos y]
      refine ⟨s, a1, ?_⟩
      unfold srcZ
      rw [if_neg (fun h => h y)]
      exact L nb 0 (by omega)
    · by_cases z : x = P + 11
      · rw [z, a2]; omega
      · rw [a4 x 1 z (row_nx (pat_11 hP) hx)]
        exact w x hx
  · refine ⟨σ, b122 hP ⟨_, _, e147, ?_⟩, w, fun _ _ _ _ => rfl⟩
    rw [if_neg y]
    refine ⟨_, _, e147, ?_⟩
    unfold srcZ
    rw [if_pos y]
/-- downFrom -/
theorem d363 {σ : Sg} {s nb na n : Nat} {O N F K : Nat → Int} (hs : s < 44) (hb : nb ≤ 99) (ha : na ≤ 16) (V : VF F nb na) (I : IV F K nb na) (lO : ∀ i, i < nb → isLn (O i) = true) (lN : ∀ i, i < na → isLn (N i) = true) (S : Slot σ s nb na O N F) (hn : n < na) (Z : Zl σ) : ∃ σ', Dd 363 [vA 682, vI s, vI n] σ (rI (srcZ O N F K nb na (hks F nb na) n) σ') ∧ Zl σ' ∧ ∀ c k, ¬ c = 690 → ¬ c = 695 → ¬ (700 ≤ c ∧ c ≤ 704) → σ' c k = σ c k := by
  obtain ⟨s1, a1, a2, a3⟩ := d293 (s := s) (σ := σ) hs (by omega) (by omega) V I S.1 S.2.1 S.2.2.2.2
  have S1 : Slot s1 s nb na O N F := Slot_fr (fun c k h => a3 c k (by omega)) S
  have Z1 : Zl s1 := Zl_fr (fun k => a3 _ _ (by decide)) Z
  have D := DS_0 V
  by_cases y : K n = -1
  · have L : ∀ (i : Nat) (σ : Sg), i ≤ nb → Slot σ s nb na O N F → Zl σ → ∃ σ', C363_34 s n (fsr O N F K nb na n (nb - i) i) ((i : Int) - 1) σ (rI (if ¬ fsr O N F K nb na n nb 0 = -1 then fsr O N F K nb na n nb 0 else if ofZ O N (hks F nb na) = true then bsd n (hks F nb na) else -1) σ') ∧ Zl σ' ∧ ∀ c k, ¬ c = 695 → ¬ (700 ≤ c ∧ c ≤ 704) → σ' c k = σ c k := by
      intro i
      induction i with
      | zero =>
        intro σ hi S Z
        rw [Nat.sub_zero]
        by_cases y1 : fsr O N F K nb na n nb 0 = -1
        · obtain ⟨s2, b1, b2, b3, b4⟩ := d362 hs (by omega) (by omega) V lO lN S
          rw [if_neg (fun h => h y1)]
          have Z2 : Zl s2 := Zl_fr (fun k => b4 _ _ (by decide)) Z
          by_cases y2 : ofZ O N (hks F nb na) = true
          · rw [if_pos y2]
            rw [if_pos y2] at b1
            have hlen := hks_len V
            obtain ⟨v, c1, c2⟩ := d312n (p := n) b2 (by omega) b3 (by omega) (fun h q hq => by
              have z := (DS_b _ _ _ _ D).2.2 q (List.mem_of_getElem? hq)
              omega)
            obtain ⟨h, q, w1, w2, w3⟩ := DS_nc D I hn y
            rcases c2 with ⟨-, c3⟩ | ⟨h', q', u1, u2, u3, u4⟩
            · exact absurd ⟨w2, w3⟩ (c3 h q w1)
            · have hl' := (List.getElem?_eq_some_iff.mp u2).1
              obtain ⟨v0, -, v2, -⟩ := HK_at b2 u2
              have bq := (DS_b _ _ _ _ D).2.2 q' (List.mem_of_getElem? u2)
              refine ⟨s2, b363_34 ?_, Z2, fun c k _ h2 => b4 c k h2⟩
              rw [if_neg (by omega), y1, if_pos rfl]
              refine ⟨_, s2, b1, ?_⟩
              rw [if_neg (show ¬ (1 : Int) = 0 by decide)]
              refine ⟨v, s2, c1, ?_⟩
              rw [u1, tn, v0, v2, bsd_at _ _ _ _ D h' q' u2 u3 u4]
              exact ⟨by omega, by omega, by omega, by omega, rfl⟩
          · rw [if_neg y2]
            rw [if_neg y2] at b1
            refine ⟨s2, b363_34 ?_, Z2, fun c k _ h2 => b4 c k h2⟩
            rw [if_neg (by omega), y1, if_pos rfl]
            refine ⟨_, s2, b1, ?_⟩
            rw [if_pos rfl]
        · rw [if_pos y1]
          refine ⟨σ, b363_34 ?_, Z, fun _ _ _ _ => rfl⟩
          rw [if_neg (by omega), if_neg y1]
      | succ i ih =>
        intro σ hi S Z
        obtain ⟨s2, b1, b2, -, -, b5⟩ := d315 hs hb ha V I lO lN S (show i < nb by omega) Z
        have S2 : Slot s2 s nb na O N F := Slot_fr (fun c k h => b5 c k (by omega) (by omega)) S
        obtain ⟨σ', c1, c2, c3⟩ := ih s2 (by omega) S2 b2
        have e : fsr O N F K nb na n (nb - i) i = if O i = N n ∧ goalZ O N F K nb na i = (n : Int) then (i : Int) else fsr O N F K nb na n (nb - (i + 1)) (i + 1) := by
          rw [show nb - i = (nb - (i + 1)) + 1 by omega]
          rfl
        refine ⟨σ', b363_34 ?_, c2, fun c k h1 h2 => by rw [c3 c k h1 h2]; exact b5 c k h1 h2⟩
        rw [if_pos (by omega), show ((i + 1 : Nat) : Int) - 1 = (i : Int) by omega]
        refine ⟨_, s2, b1, ?_⟩
        have t82 : ∀ {u : Rs} (d : Option AV) (y0 : Int), y0 = fsr O N F K nb na n (nb - i) i → C363_34 s n (fsr O N F K nb na n (nb - i) i) ((i : Int) - 1) s2 u → C363_82 s n d i y0 s2 u := fun {u} d y0 hy hh => by
          refine b363_82 ⟨by omega, ?_⟩
          rw [hy, show (i : Int) + (-1) = (i : Int) - 1 by omega]
          exact hh
        by_cases y1 : goalZ O N F K nb na i = (n : Int)
        · rw [if_pos y1, show (100 * (s : Int) + (i : Int)).toNat = 100 * s + i by omega, show (100 * (s : Int) + (n : Int)).toNat = 100 * s + n by omega, S2.2.2.1 i (by omega), S2.2.2.2.1 n hn]
          refine ⟨by omega, by omega, by omega, by omega, by omega, by omega, ?_⟩
          by_cases y2 : O i = N n
          · rw [if_pos y2]
            exact t82 _ _ (by rw [e, if_pos ⟨y2, y1⟩]) c1
          · rw [if_neg y2]
            exact b363_81 (t82 _ _ (by rw [e, if_neg (fun z => y2 z.1)]) c1)
        · rw [if_neg y1]
          exact b363_81 (t82 _ _ (by rw [e, if_neg (fun z => y1 z.2)]) c1)
    obtain ⟨σ', c1, c2, c3⟩ := L nb s1 (Nat.le_refl _) S1 Z1
    rw [Nat.sub_self] at c1
    refine ⟨σ', b363 ⟨s1, a1, by omega, ?_⟩, c2, fun c k h1 h2 h3 => by rw [c3 c k h2 h3]; exact a3 c k h1⟩
    rw [tn, a2 n hn, if_pos y, tn, S1.1]
    unfold srcZ
    rw [if_neg (fun h => h y)]
    exact ⟨by omega, by omega, c1⟩
  · refine ⟨s1, b363 ⟨s1, a1, by omega, ?_⟩, Z1, fun c k h1 _ _ => a3 c k h1⟩
    rw [tn, a2 n hn, if_neg y]
    unfold srcZ
    rw [if_pos y]
    exact ⟨by omega, rfl⟩
end
