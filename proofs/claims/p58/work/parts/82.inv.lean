/-! A scratch patch that is stored; invert. -/
noncomputable section
theorem WF_np {σ s : Sg} {P nb na : Nat} (H : WF σ) (hP : isPatch P = true) (N : NP s P nb na) (w9 : wR s (P + 9)) (c1 : nb ≤ cap (P + 1)) (c3 : na ≤ cap (P + 3)) (c5 : nb ≤ cap (P + 5)) (c7 : na ≤ cap (P + 7)) (hf : ∀ c k, ¬ (P + 1 ≤ c ∧ c ≤ P + 10) → s c k = σ c k) : WF s := by
  obtain ⟨n1, n3, n5, n7, -⟩ := N
  intro r hr
  by_cases h : P + 1 ≤ r ∧ r ≤ P + 10
  · have e2 : ¬ r = P + 2 := row_nx (pat_1 hP) hr
    have e4 : ¬ r = P + 4 := row_nx (pat_3 hP) hr
    have e6 : ¬ r = P + 6 := row_nx (pat_5 hP) hr
    have e8 : ¬ r = P + 8 := row_nx (pat_7 hP) hr
    have e10 : ¬ r = P + 10 := row_nx (pat_9 hP) hr
    have h5 : r = P + 1 ∨ r = P + 3 ∨ r = P + 5 ∨ r = P + 7 ∨ r = P + 9 := by omega
    rcases h5 with h5 | h5 | h5 | h5 | h5 <;> subst h5
    · omega
    · omega
    · omega
    · omega
    · exact w9.2
  · rw [hf r 1 h]
    exact H r hr
/-- the store of a scratch patch -/
theorem st_new {σ σ1 : Sg} {Q p : Nat} (hp : σ 0 3 = (p : Nat)) (h24 : p < 24) (hQ : isPatch Q = true) (hQ2 : 332 ≤ Q) (w1 : WF σ1) (f1 : ∀ a k, a < 682 → KP a k → σ1 a k = σ a k) (P1 : PO σ1 Q 16) : ∃ s, Dd 242 [vA 0, vA Q] σ1 (rI p s) ∧ WF s ∧ s 0 3 = (p : Int) + 1 ∧ (∀ a k, a < 682 → KP a k → ¬ (a = 0 ∧ k = 3) → ¬ (20 + 13 * p + 1 ≤ a ∧ a ≤ 20 + 13 * p + 10) → s a k = σ a k) ∧ (∀ a k, 682 ≤ a → s a k = σ1 a k) ∧ (∀ j, j = 1 ∨ j = 3 ∨ j = 5 ∨ j = 7 ∨ j = 9 → s (20 + 13 * p + j) 1 = σ1 (Q + j) 1 ∧ ∀ k : Nat, (k : Int) < σ1 (Q + j) 1 → s (20 + 13 * p + j + 1) k = σ1 (Q + j + 1) k) ∧ PO s (20 + 13 * p) 16 := by
  have hc := cpP h24
  have e03 : σ1 0 3 = (p : Nat) := by rw [f1 0 3 (by decide) (by omega)]; exact hp
  have b1 := w1 _ (pat_1 hQ)
  have b3 := w1 _ (pat_3 hQ)
  obtain ⟨nb, hb⟩ := Int.eq_ofNat_of_zero_le b1.1
  obtain ⟨na, ha⟩ := Int.eq_ofNat_of_zero_le b3.1
  obtain ⟨n1, n3, n5, n7, V, K, C1, C2⟩ := NP_of P1 hb ha
  have hl := hks_len V
  have z1 := P1.1
  have z2 := P1.2.1
  have hrow : ∀ j, j = 1 ∨ j = 3 ∨ j = 5 ∨ j = 7 ∨ j = 9 → σ1 (Q + j) 1 ≤ (cap (20 + 13 * p + j) : Int) := by
    intro j hj
    rcases hj with hj | hj | hj | hj | hj <;> subst hj <;> omega
  have c4 : ∀ j, j = 1 ∨ j = 3 ∨ j = 5 ∨ j = 7 ∨ j = 9 → (upS (pbS σ1 (20 + 13 * p) Q) 0 3 ((p : Int) + 1)) (20 + 13 * p + j) 1 = σ1 (Q + j) 1 ∧ ∀ k : Nat, (k : Int) < σ1 (Q + j) 1 → (upS (pbS σ1 (20 + 13 * p) Q) 0 3 ((p : Int) + 1)) (20 + 13 * p + j + 1) k = σ1 (Q + j + 1) k := by
    intro j hj
    obtain ⟨y1, y2⟩ := pb_row (σ := σ1) (P := 20 + 13 * p) (Q := Q) (by omega) hj (hrow j hj)
    exact ⟨by rw [up_a (by omega)]; exact y1, fun k hk => by rw [up_a (by omega)]; exact y2 k hk⟩
  refine ⟨_, d242_ok e03 h24 hQ (by omega) (WF_pw w1), WF_up (Or.inr (by decide)) (WF_pb hc.2.2.2.2.2.2.1 hQ w1), up_s, fun a k h1 h2 h3 h4 => ?_, fun a k h1 => ?_, c4, PO_cg c4 P1 ⟨b1.1, b3.1⟩⟩
  · have : upS (pbS σ1 (20 + 13 * p) Q) 0 3 ((p : Int) + 1) a k = pbS σ1 (20 + 13 * p) Q a k := by
      unfold upS
      rw [if_neg h3]
    rw [this, pb_off h4]
    exact f1 a k h1 h2
  · rw [up_a (by omega), pb_off (by omega)]
/-- what the reference's run leaves in a new slot -/
def Slot (s : Sg) (p nb na : Nat) (O N F : Nat → Int) : Prop := s 688 p = (nb : Nat) ∧ s 689 p = (na : Nat) ∧ (∀ i, i < nb → s 685 (100 * p + i) = O i) ∧ (∀ i, i < na → s 686 (100 * p + i) = N i) ∧ ∀ i, i < nb → s 687 (100 * p + i) = F i
/-- a call that makes a patch -/
theorem op_st {w m : Nat} {aw am : List AV} {σ σ1 : Sg} {c : Int} {Q p nb na : Nat} (H : Rel c σ) (hp : σ 0 3 = (p : Nat)) (h24 : p < 24) (hQ : isPatch Q = true) (hQ2 : 332 ≤ Q) (w1 : WF σ1) (f1 : ∀ a k, a < 682 → KP a k → σ1 a k = σ a k) (g1 : ∀ a k, 682 ≤ a → σ1 a k = σ a k) (P1 : PO σ1 Q 16) (hb : σ1 (Q + 1) 1 = (nb : Nat)) (ha : σ1 (Q + 3) 1 = (na : Nat)) (hA : ∀ s, Dd 242 [vA 0, vA Q] σ1 (rI p s) → Dd w aw σ (rI 0 (upS s 726 0 p))) (hB : ∀ s : Sg, (∀ a k, 682 ≤ a → ¬ a = 726 → s a k = σ a k) → ∃ s2, Dd m am s (rI p s2) ∧ s2 682 0 = 0 ∧ s2 682 3 = (p : Int) + 1 ∧ (∀ a k, a < 682 ∨ 726 ≤ a → s2 a k = s a k) ∧ (∀ a k, 682 ≤ a → a ≤ 725 → KP a k → ¬ (a = 682 ∧ k = 3) → ¬ (685 ≤ a ∧ a ≤ 687 ∧ 100 * p ≤ k ∧ k < 100 * p + 100) → ¬ ((a = 688 ∨ a = 689) ∧ k = p) → s2 a k = σ a k) ∧ Slot s2 p nb na (σ1 (Q + 2)) (σ1 (Q + 4)) (σ1 (Q + 6))) : OpR w m aw am σ (c + 1) := by
  obtain ⟨s, a1, a2, a3, a4, a5, a6, a7⟩ := st_new hp h24 hQ hQ2 w1 f1 P1
  have z1 := P1.1
  have z2 := P1.2.1
  have z5 := P1.2.2.1
  obtain ⟨s2, b1, b2, b3, b4, b5, b6⟩ := hB (upS s 726 0 p) (fun a k h1 h2 => by rw [up_a h2, a5 a k h1]; exact g1 a k h1)
  have k1 : ∀ a k, a < 682 → s2 a k = s a k := fun a k h => by rw [b4 a k (Or.inl h), up_a (by omega)]
  obtain ⟨t1, t3⟩ := a6 1 (by omega)
  obtain ⟨u1, u3⟩ := a6 3 (by omega)
  obtain ⟨v1, v3⟩ := a6 5 (by omega)
  obtain ⟨y1, y2, y3, y4, y5⟩ := b6
  refine op_fin (hA s a1) b1 b2 (fun _ => by rw [b4 _ _ (by omega)]; exact up_s) (fun a k h => by rw [up_a (by omega), a5 a k (by omega)]; exact g1 a k (by omega)) (fun a k h => by rw [b4 a k (by omega), up_a (by omega), a5 a k (by omega)]; exact g1 a k (by omega)) (Rel_new H hp h24 a2 a3 a4 (fun a k h => k1 a k h) b3 (fun a k h1 h2 h3 h4 h5 => b5 a k h1 (by omega) h2 h3 h4 h5) ?_ (PO_fr (fun a k h => k1 a k (by omega)) a7))
  refine ⟨⟨by rw [k1 _ _ (by omega), t1, y1]; exact hb, fun i hi => ?_⟩, ⟨by rw [k1 _ _ (by omega), u1, y2]; exact ha, fun i hi => ?_⟩, ⟨by rw [k1 _ _ (by omega), v1, y1]; omega, fun i hi => ?_⟩⟩
  · rw [y1] at hi
    rw [k1 _ _ (by omega), t3 i (by omega), y3 i (by omega)]
  · rw [y2] at hi
    rw [k1 _ _ (by omega), u3 i (by omega), y4 i (by omega)]
  · rw [y1] at hi
    rw [k1 _ _ (by omega), v3 i (by omega), y5 i (by omega)]
/-- a call that could make no patch: there are too many -/
theorem op_full {w m : Nat} {aw am : List AV} {σ σ1 : Sg} {c kx : Int} (H : Rel c σ) (hk : ¬ kx = 0) (w1 : WF σ1) (f1 : ∀ a k, a < 682 → KP a k → σ1 a k = σ a k) (g1 : ∀ a k, 682 ≤ a → σ1 a k = σ a k) (hA : Dd w aw σ (rI kx σ1)) (hB : ∃ s2 b, Dd m am σ1 (rI b s2) ∧ s2 682 0 = kx ∧ (∀ a k, a < 682 ∨ 726 ≤ a → s2 a k = σ1 a k) ∧ ∀ a k, 682 ≤ a → KP a k → s2 a k = σ a k) : OpR w m aw am σ (c + 1) := by
  obtain ⟨s2, b, b1, b2, b3, b4⟩ := hB
  refine op_fin hA b1 b2 (fun h => absurd h hk) (fun a k h => g1 a k (by omega)) (fun a k h => by rw [b3 a k (by omega)]; exact g1 a k (by omega)) (Rel_sc (by omega) (WF_fr (fun a k h => b3 a k (by omega)) w1) (fun a k h => ?_) H)
  by_cases h' : a < 682
  · rw [b3 a k (by omega)]; exact f1 a k h' h
  · exact b4 a k (by omega) h
/-- the inverse of the pairs of a slot -/
theorem l293a {s na : Nat} (hs : s < 44) (h100 : na ≤ 100) : ∀ (d j : Nat) (σ : Sg), j + d = na → σ 689 s = (na : Nat) → (∀ k, k < j → σ 690 k = -1) → ∃ σ', (∀ {o : Rs}, C293_27 s 0 σ' o → C293_2 s j σ o) ∧ (∀ k, k < na → σ' 690 k = -1) ∧ ∀ c k, ¬ c = 690 → σ' c k = σ c k := by
  intro d
  induction d with
  | zero =>
    intro j σ hj hn h1
    refine ⟨σ, fun {o} hh => b293_2 ⟨by omega, ?_⟩, fun k hk => h1 k (by omega), fun _ _ _ => rfl⟩
    rw [show ((s : Nat) : Int).toNat = s by omega, if_neg (by omega)]
    exact hh
  | succ d ih =>
    intro j σ hj hn h1
    obtain ⟨σ', a1, a2, a3⟩ := ih (j + 1) (upS σ 690 j (-1)) (by omega) (by rw [up_a (by decide)]; exact hn) (fun k hk => by
      by_cases e : k = j
      · rw [e, up_s]
      · rw [up_k e]; exact h1 k (by omega))
    refine ⟨σ', fun {o} hh => b293_2 ⟨by omega, ?_⟩, a2, fun c k h => by rw [a3 c k h, up_a h]⟩
    rw [show ((s : Nat) : Int).toNat = s by omega, if_pos (by omega), show ((j : Nat) : Int).toNat = j by omega]
    have := a1 hh
    rw [show (((j + 1 : Nat)) : Int) = (j : Int) + 1 by omega] at this
    exact ⟨by omega, by omega, this⟩
theorem l293b {s nb na : Nat} {F K : Nat → Int} (hs : s < 44) (h100 : nb ≤ 100) (h100' : na ≤ 100) (V : VF F nb na) (I : IV F K nb na) : ∀ (d i : Nat) (σ : Sg), i + d = nb → σ 688 s = (nb : Nat) → (∀ k, k < nb → σ 687 (100 * s + k) = F k) → (∀ j, j < na → σ 690 j = if ¬ K j = -1 ∧ K j < i then K j else -1) → ∃ σ', C293_27 s i σ (rV σ') ∧ (∀ j, j < na → σ' 690 j = K j) ∧ ∀ c k, ¬ c = 690 → σ' c k = σ c k := by
  intro d
  induction d with
  | zero =>
    intro i σ hi hn hf h1
    refine ⟨σ, b293_27 ⟨by omega, ?_⟩, fun j hj => ?_, fun _ _ _ => rfl⟩
    · rw [show ((s : Nat) : Int).toNat = s by omega, if_neg (by omega)]
    · rw [h1 j hj]
      rcases I.1 j hj with e | e
      · rw [if_neg (fun h => h.1 e), e]
      · rw [if_pos ⟨by omega, by omega⟩]
  | succ d ih =>
    intro i σ hi hn hf h1
    have hfi := hf i (by omega)
    have e1 : ((100 * (s : Int)) + (i : Int)).toNat = 100 * s + i := by omega
    rcases V.1 i (by omega) with v | v
    · obtain ⟨σ', a1, a2, a3⟩ := ih (i + 1) σ (by omega) hn hf (fun j hj => by
        rw [h1 j hj]
        have hne : ¬ K j = i := by
          intro e
          rcases I.1 j hj with z | z
          · omega
          · have z2 := z.2.2
            rw [e, show ((i : Nat) : Int).toNat = i by omega, v] at z2
            omega
        by_cases h : ¬ K j = -1 ∧ K j < i
        · rw [if_pos h, if_pos ⟨h.1, by omega⟩]
        · rw [if_neg h, if_neg (fun g => h ⟨g.1, by omega⟩)])
      refine ⟨σ', b293_27 ⟨by omega, ?_⟩, a2, a3⟩
      rw [show ((s : Nat) : Int).toNat = s by omega, if_pos (by omega), e1, hfi, if_pos v]
      rw [show (((i + 1 : Nat)) : Int) = (i : Int) + 1 by omega] at a1
      exact ⟨by omega, by omega, by omega, b293_69 ⟨by omega, a1⟩⟩
    · have kv := I.2 i (by omega) (by omega)
      obtain ⟨σ', a1, a2, a3⟩ := ih (i + 1) (upS σ 690 (F i).toNat i) (by omega) (by rw [up_a (by decide)]; exact hn) (fun k hk => by rw [up_a (by decide)]; exact hf k hk) (fun j hj => by
        by_cases e : j = (F i).toNat
        · rw [e, up_s, kv, if_pos ⟨by omega, by omega⟩]
        · rw [up_k e, h1 j hj]
          have hne : ¬ K j = i := by
            intro e2
            rcases I.1 j hj with z | z
            · omega
            · have z2 := z.2.2
              rw [e2, show ((i : Nat) : Int).toNat = i by omega] at z2
              omega
          by_cases h : ¬ K j = -1 ∧ K j < i
          · rw [if_pos h, if_pos ⟨h.1, by omega⟩]
          · rw [if_neg h, if_neg (fun g => h ⟨g.1, by omega⟩)])
      refine ⟨σ', b293_27 ⟨by omega, ?_⟩, a2, fun c k h => by rw [a3 c k h, up_a h]⟩
      rw [show ((s : Nat) : Int).toNat = s by omega, if_pos (by omega), e1, hfi, if_neg (by omega)]
      rw [show (((i + 1 : Nat)) : Int) = (i : Int) + 1 by omega] at a1
      exact ⟨by omega, by omega, by omega, by omega, by omega, by omega, by omega, b293_69 ⟨by omega, a1⟩⟩
theorem d293 {s nb na : Nat} {F K : Nat → Int} {σ : Sg} (hs : s < 44) (h100 : nb ≤ 100) (h100' : na ≤ 100) (V : VF F nb na) (I : IV F K nb na) (hn : σ 688 s = (nb : Nat)) (hm : σ 689 s = (na : Nat)) (hf : ∀ k, k < nb → σ 687 (100 * s + k) = F k) : ∃ σ', Dd 293 [vA 682, vI s] σ (rV σ') ∧ (∀ j, j < na → σ' 690 j = K j) ∧ ∀ c k, ¬ c = 690 → σ' c k = σ c k := by
  obtain ⟨s1, a1, a2, a3⟩ := l293a hs h100' na 0 σ (by omega) hm (fun k hk => absurd hk (Nat.not_lt_zero k))
  obtain ⟨s2, c1, c2, c3⟩ := l293b hs h100 h100' V I nb 0 s1 (by omega) (by rw [a3 _ _ (by decide)]; exact hn) (fun k hk => by rw [a3 _ _ (by decide)]; exact hf k hk) (fun j hj => by
    rw [a2 j hj, if_neg]
    rintro ⟨z1, z2⟩
    rcases I.1 j hj with z | z
    · exact z1 z
    · omega)
  exact ⟨s2, b293 (a1 c1), c2, fun c k h => by rw [c3 c k h, a3 c k h]⟩
theorem l294b {s t nb : Nat} {O : Nat → Int} (hs : s < 44) (ht : t < 44) (h100 : nb ≤ 100) : ∀ (d i : Nat) (σ : Sg), i + d = nb → σ 689 t = (nb : Nat) → (∀ k, k < nb → σ 685 (100 * s + k) = O k) → (∀ k, k < i → σ 686 (100 * t + k) = O k) → ∃ σ', C294_88 s t i σ (rV σ') ∧ (∀ k, k < nb → σ' 686 (100 * t + k) = O k) ∧ ∀ c k, ¬ (c = 686 ∧ 100 * t ≤ k ∧ k < 100 * t + 100) → σ' c k = σ c k := by
  intro d
  induction d with
  | zero =>
    intro i σ hi hn hf h1
    refine ⟨σ, b294_88 ⟨by omega, ?_⟩, fun k hk => h1 k (by omega), fun _ _ _ => rfl⟩
    rw [show ((t : Nat) : Int).toNat = t by omega, if_neg (by omega)]
  | succ d ih =>
    intro i σ hi hn hf h1
    have e1 : ((100 * (t : Int)) + (i : Int)).toNat = 100 * t + i := by omega
    have e2 : ((100 * (s : Int)) + (i : Int)).toNat = 100 * s + i := by omega
    obtain ⟨σ', a1, a2, a3⟩ := ih (i + 1) (upS σ 686 (100 * t + i) (σ 685 (100 * s + i))) (by omega) (by rw [up_a (by decide)]; exact hn) (fun k hk => by rw [up_a (by decide)]; exact hf k hk) (fun k hk => by
      by_cases e : k = i
      · rw [e, up_s]; exact hf i (by omega)
      · rw [up_k (by omega)]; exact h1 k (by omega))
    refine ⟨σ', b294_88 ⟨by omega, ?_⟩, a2, fun c k h => ?_⟩
    · rw [show ((t : Nat) : Int).toNat = t by omega, if_pos (by omega), e1, e2]
      rw [show (((i + 1 : Nat)) : Int) = (i : Int) + 1 by omega] at a1
      exact ⟨by omega, by omega, by omega, by omega, by omega, by omega, by omega, a1⟩
    · rw [a3 c k h]
      unfold upS
      rw [if_neg (by omega)]
theorem l294a {s t nb na : Nat} {O N K : Nat → Int} (hs : s < 44) (ht : t < 44) (hst : ¬ s = t) (h100 : nb ≤ 100) (h100' : na ≤ 100) : ∀ (d i : Nat) (σ : Sg), i + d = na → σ 688 t = (na : Nat) → σ 689 t = (nb : Nat) → (∀ k, k < na → σ 686 (100 * s + k) = N k) → (∀ k, k < nb → σ 685 (100 * s + k) = O k) → (∀ k, k < na → σ 690 k = K k) → (∀ k, k < i → σ 685 (100 * t + k) = N k ∧ σ 687 (100 * t + k) = K k) → ∃ σ', C294_31 s t i σ (rV σ') ∧ (∀ k, k < na → σ' 685 (100 * t + k) = N k ∧ σ' 687 (100 * t + k) = K k) ∧ (∀ k, k < nb → σ' 686 (100 * t + k) = O k) ∧ ∀ c k, ¬ (685 ≤ c ∧ c ≤ 687 ∧ 100 * t ≤ k ∧ k < 100 * t + 100) → σ' c k = σ c k := by
  intro d
  induction d with
  | zero =>
    intro i σ hi hn hm hN hO hK h1
    obtain ⟨σ', a1, a2, a3⟩ := l294b (O := O) hs ht h100 nb 0 σ (by omega) hm hO (fun k hk => absurd hk (Nat.not_lt_zero k))
    refine ⟨σ', b294_31 ⟨by omega, ?_⟩, fun k hk => ?_, a2, fun c k h => a3 c k (by omega)⟩
    · rw [show ((t : Nat) : Int).toNat = t by omega, if_neg (by omega)]
      exact a1
    · rw [a3 _ _ (by omega), a3 _ _ (by omega)]
      exact h1 k (by omega)
  | succ d ih =>
    intro i σ hi hn hm hN hO hK h1
    have e1 : ((100 * (t : Int)) + (i : Int)).toNat = 100 * t + i := by omega
    have e2 : ((100 * (s : Int)) + (i : Int)).toNat = 100 * s + i := by omega
    have g : ∀ c k, ¬ ((c = 685 ∨ c = 687) ∧ k = 100 * t + i) → upS (upS σ 685 (100 * t + i) (σ 686 (100 * s + i))) 687 (100 * t + i) ((upS σ 685 (100 * t + i) (σ 686 (100 * s + i))) 690 i) c k = σ c k := by
      intro c k h
      unfold upS
      rw [if_neg (by omega), if_neg (by omega)]
    obtain ⟨σ', a1, a2, a3, a4⟩ := ih (i + 1) (upS (upS σ 685 (100 * t + i) (σ 686 (100 * s + i))) 687 (100 * t + i) ((upS σ 685 (100 * t + i) (σ 686 (100 * s + i))) 690 i)) (by omega) (by rw [g _ _ (by omega)]; exact hn) (by rw [g _ _ (by omega)]; exact hm) (fun k hk => by rw [g _ _ (by omega)]; exact hN k hk) (fun k hk => by rw [g _ _ (by omega)]; exact hO k hk) (fun k hk => by rw [g _ _ (by omega)]; exact hK k hk) (fun k hk => by
      by_cases e : k = i
      · rw [e, up_s, up_a (by decide), up_s, up_a (by decide)]
        exact ⟨hN i (by omega), hK i (by omega)⟩
      · rw [g _ _ (by omega), g _ _ (by omega)]
        exact h1 k (by omega))
    refine ⟨σ', b294_31 ⟨by omega, ?_⟩, a2, a3, fun c k h => by rw [a4 c k h, g c k (by omega)]⟩
    rw [show ((t : Nat) : Int).toNat = t by omega, if_pos (by omega), e1, e2, show ((i : Nat) : Int).toNat = i by omega]
    rw [show (((i + 1 : Nat)) : Int) = (i : Int) + 1 by omega] at a1
    exact ⟨by omega, by omega, by omega, by omega, by omega, by omega, by omega, by omega, by omega, by omega, by omega, a1⟩
/-- inverts, in a slot of its own -/
theorem d294 {s t nb na : Nat} {O N F K : Nat → Int} {σ : Sg} (hs : s < 44) (ht : t < 44) (hst : ¬ s = t) (h100 : nb ≤ 100) (h100' : na ≤ 100) (V : VF F nb na) (I : IV F K nb na) (hS : Slot σ s nb na O N F) : ∃ σ', Dd 294 [vA 682, vI s, vI t] σ (rV σ') ∧ Slot σ' t na nb N O K ∧ ∀ c k, ¬ c = 690 → ¬ (685 ≤ c ∧ c ≤ 687 ∧ 100 * t ≤ k ∧ k < 100 * t + 100) → ¬ ((c = 688 ∨ c = 689) ∧ k = t) → σ' c k = σ c k := by
  obtain ⟨hn, hm, hO, hN, hF⟩ := hS
  obtain ⟨s1, a1, a2, a3⟩ := d293 hs h100 h100' V I hn hm hF
  have hn1 : s1 688 s = (nb : Nat) := by rw [a3 _ _ (by decide)]; exact hn
  have hm1 : s1 689 s = (na : Nat) := by rw [a3 _ _ (by decide)]; exact hm
  have g : ∀ c k, ¬ ((c = 688 ∨ c = 689) ∧ k = t) → upS (upS s1 688 t (s1 689 s)) 689 t ((upS s1 688 t (s1 689 s)) 688 s) c k = s1 c k := by
    intro c k h
    unfold upS
    rw [if_neg (by omega), if_neg (by omega)]
  have v1 : upS (upS s1 688 t (s1 689 s)) 689 t ((upS s1 688 t (s1 689 s)) 688 s) 688 t = (na : Nat) := by
    rw [up_a (by decide), up_s]; exact hm1
  have v2 : upS (upS s1 688 t (s1 689 s)) 689 t ((upS s1 688 t (s1 689 s)) 688 s) 689 t = (nb : Nat) := by
    rw [up_s, up_k hst]; exact hn1
  obtain ⟨σ', c1, c2, c3, c4⟩ := l294a (O := O) (N := N) (K := K) hs ht hst h100 h100' na 0 (upS (upS s1 688 t (s1 689 s)) 689 t ((upS s1 688 t (s1 689 s)) 688 s)) (by omega) v1 v2 (fun k hk => by rw [g _ _ (by omega), a3 _ _ (by decide)]; exact hN k hk) (fun k hk => by rw [g _ _ (by omega), a3 _ _ (by decide)]; exact hO k hk) (fun k hk => by rw [g _ _ (by omega)]; exact a2 k hk) (fun k hk => absurd hk (Nat.not_lt_zero k))
  refine ⟨σ', b294 ⟨s1, a1, by omega, by omega, by omega, by omega, ?_⟩, ⟨by rw [c4 _ _ (by omega)]; exact v1, by rw [c4 _ _ (by omega)]; exact v2, fun i hi => (c2 i hi).1, c3, fun i hi => (c2 i hi).2⟩, fun c k h1 h2 h3 => ?_⟩
  · rw [show ((t : Nat) : Int).toNat = t by omega, show ((s : Nat) : Int).toNat = s by omega]
    exact c1
  · rw [c4 c k h2, g c k h3, a3 c k h1]
theorem VF_K {F K : Nat → Int} {nb na : Nat} (V : VF F nb na) (I : IV F K nb na) : VF K na nb := by
  refine ⟨fun j hj => ?_, fun j j' h1 h2 h3 h4 => ?_⟩
  · rcases I.1 j hj with e | e
    · exact Or.inl e
    · exact Or.inr ⟨e.1, e.2.1⟩
  · rcases I.1 j (by omega) with e | e
    · exact absurd e h3
    rcases I.1 j' h2 with e' | e'
    · exact absurd e' h4
    by_cases h : K j < K j'
    · exact h
    · exfalso
      by_cases h5 : K j = K j'
      · have q1 := e.2.2
        have q2 := e'.2.2
        rw [h5] at q1
        omega
      · have q := V.2 (K j').toNat (K j).toNat (by omega) (by omega) (by rw [e'.2.2]; omega) (by rw [e.2.2]; omega)
        rw [e.2.2, e'.2.2] at q
        omega
/-- the slot of a patch of the relation -/
theorem po_slot {σ : Sg} {P s : Nat} (H : PR σ P s) (H2 : PO σ P 16) (w1 : 0 ≤ σ (P + 1) 1) (w3 : 0 ≤ σ (P + 3) 1) : ∃ nb na : Nat, nb ≤ 16 ∧ na ≤ 16 ∧ NP σ P nb na ∧ Slot σ s nb na (σ (P + 2)) (σ (P + 4)) (σ (P + 6)) := by
  obtain ⟨nb, na, b1, b2, b3, b4, b5, b6, V, f1, f2, f3⟩ := po_two H H2 w1 w3
  exact ⟨nb, na, b1, b2, NP_of H2 b3 b4, b5, b6, f2, f3, f1⟩
theorem Slot_fr {σ s : Sg} {p nb na : Nat} {O N F : Nat → Int} (h : ∀ c k, 685 ≤ c ∧ c ≤ 689 → s c k = σ c k) (H : Slot σ p nb na O N F) : Slot s p nb na O N F := by
  obtain ⟨h1, h2, h3, h4, h5⟩ := H
  exact ⟨by rw [h _ _ (by decide)]; exact h1, by rw [h _ _ (by decide)]; exact h2, fun i hi => by rw [h _ _ (by decide)]; exact h3 i hi, fun i hi => by rw [h _ _ (by decide)]; exact h4 i hi, fun i hi => by rw [h _ _ (by decide)]; exact h5 i hi⟩
theorem cpS351 : isPatch 351 = true ∧ cap 352 = 96 ∧ cap 354 = 96 ∧ cap 356 = 96 ∧ cap 358 = 96 ∧ cap 360 = 388 := by decide +kernel
theorem cpS364 : isPatch 364 = true ∧ cap 365 = 96 ∧ cap 367 = 96 ∧ cap 369 = 96 ∧ cap 371 = 96 ∧ cap 373 = 388 := by decide +kernel
theorem o10 {σ : Sg} {c a1 : Int} (H : Rel c σ) : OpR 400 300 [vA 0, vI a1, vA 726] [vA 682, vI a1] σ (c + 1) := by
  by_cases g1 : a1 < 0
  · exact x10_0 H g1
  by_cases g2 : σ 0 3 ≤ a1
  · exact x10_1 H g2
  have k1 : 0 ≤ a1 ∧ a1 < σ 0 3 := by omega
  obtain ⟨a, rfl⟩ := Int.eq_ofNat_of_zero_le k1.1
  have hn := (rel_n H).1
  obtain ⟨hP, q1, q2, w1, w3⟩ := po_pat H k1.2
  obtain ⟨nb, na, b1, b2, N, S⟩ := po_slot q1 q2 w1 w3
  obtain ⟨n1, n3, n5, n7, V, K, C1, C2⟩ := N
  have e230 := d230_ok (σ := σ) k1 hn.2.2
  rw [show ((a : Int)).toNat = a by omega] at e230
  obtain ⟨p351, c352, c354, c356, c358, c360⟩ := cpS351
  have c352' : cap (351 + 1) = 96 := c352
  have c354' : cap (351 + 3) = 96 := c354
  have c356' : cap (351 + 5) = 96 := c356
  have c358' : cap (351 + 7) = 96 := c358
  have c360' : cap (351 + 9) = 388 := c360
  have hlt : 20 + 13 * a < 351 := by omega
  have hgp := patch_gap hP p351 hlt
  obtain ⟨s1, a1', a2, a3, a4, a5, a6, a7⟩ := d95 (P := 351) (x1 := 20 + 13 * a + 3) (x2 := 20 + 13 * a + 1) (x3 := 20 + 13 * a + 7) (nb := na) (na := nb) (σ := σ) p351 (WF_w H.1 (pat_3 hP)) (WF_w H.1 (pat_1 hP)) (WF_w H.1 (pat_7 hP)) n3 n1 n7 (VF_K V K) (by omega) (by omega) (by omega) (by omega) (by omega) (by omega) (by omega) (by omega)
  have W1 : WF s1 := WF_np H.1 p351 a2 a3 (by omega) (by omega) (by omega) (by omega) a7
  have F1 : ∀ a k, a < 682 → KP a k → s1 a k = σ a k := fun a k h1 h2 => a7 a k (by omega)
  have G1 : ∀ a k, 682 ≤ a → s1 a k = σ a k := fun a k h1 => a7 a k (by omega)
  have A1 := a2.1
  have A3 := a2.2.1
  have q5 := q2.2.2.2.2.1
  have P1 : PO s1 351 16 := by
    refine PO_of a2 (by omega) (by omega) (fun i hi e => ?_) (fun i hi => ?_) (fun i hi => ?_)
    · have z6 : s1 (351 + 6) i = σ (20 + 13 * a + 8) i := a6 i hi
      rw [z6] at e
      rcases K.1 i hi with y | y
      · exact absurd y e
      have zz := q5 (σ (20 + 13 * a + 8) i).toNat (by omega)
      have y2 : σ (20 + 13 * a + 6) (σ (20 + 13 * a + 8) i).toNat = i := y.2.2
      rcases zz with zz | zz
      · omega
      · have z := zz.2.2.2
        rw [y2, show ((i : Nat) : Int).toNat = i by omega] at z
        rw [a4 i hi, z6, a5 _ (by omega)]
        exact z.symm
    · rw [a4 i hi]; exact q2.2.2.2.2.2.2.2.2.1 i (by omega)
    · rw [a5 i hi]; exact q2.2.2.2.2.2.2.2.1 i (by omega)
  have hd : Dd 3 [vA 350, vA (20 + 13 * a)] σ (rA 351 s1) := b3 hP ⟨s1, a1', rfl⟩
  have m0 : ∀ {s : Sg} {o : Rs}, (∀ a k, 682 ≤ a → ¬ a = 726 → s a k = σ a k) → C300_27 a (if s 682 3 = 24 then 2 else 0) s o → Dd 300 [vA 682, vI a] s o := by
    intro s o h hh
    have e3 := h 682 3 (by decide) (by decide)
    refine b300 ⟨_, _, d248_ok (by omega), ?_⟩
    rw [if_neg (show ¬ (1 : Int) = 0 by decide)]
    exact hh
  by_cases g3 : σ 0 3 < 24
  · obtain ⟨p, hp⟩ := Int.eq_ofNat_of_zero_le hn.2.1
    refine op_st H hp (by omega) p351 (by decide) W1 F1 G1 P1 A1 A3 (fun s hs => b400 (Or.inl ⟨_, _, b182 (Or.inl ⟨_, _, e230, hP, _, _, hd, p351, Or.inl ⟨_, _, hs, rfl⟩⟩), rfl⟩)) (fun s hs => ?_)
    have e3 := hs 682 3 (by decide) (by decide)
    have S2 : Slot (upS s 682 0 0) a nb na (σ (20 + 13 * a + 2)) (σ (20 + 13 * a + 4)) (σ (20 + 13 * a + 6)) := Slot_fr (fun c k h => by rw [up_a (by omega)]; exact hs c k (by omega) (by omega)) S
    obtain ⟨s', d1, d2, d3⟩ := d294 (s := a) (t := p) (σ := upS s 682 0 0) (by omega) (by omega) (by omega) (by omega) (by omega) V K S2
    have e4 : s' 682 3 = (p : Nat) := by rw [d3 _ _ (by decide) (by omega) (by omega), up_k (by decide)]; omega
    refine ⟨upS s' 682 3 ((p : Int) + 1), m0 hs ?_, ?_, up_s, fun b k h => ?_, fun b k h1 h2 h3 h4 h5 h6 => ?_, ?_⟩
    · rw [if_neg (by omega)]
      refine b300_27 ⟨_, _, d245, ?_⟩
      rw [if_pos rfl, if_neg (show ¬ (1 : Int) = 0 by decide), up_k (by decide), e3, hn.1, hp]
      refine ⟨s', d1, ?_⟩
      rw [e4, up_s, show ((p : Nat) : Int) + 1 - 1 = (p : Int) by omega]
      exact ⟨by omega, by omega, rfl⟩
    · rw [up_k (by decide), d3 _ _ (by decide) (by omega) (by omega), up_s]
    · rw [up_a (by omega), d3 _ _ (by omega) (by omega) (by omega), up_a (by omega)]
    · have : upS s' 682 3 ((p : Int) + 1) b k = s' b k := by unfold upS; rw [if_neg h4]
      rw [this, d3 _ _ (by omega) h5 h6]
      have : upS s 682 0 0 b k = s b k := by unfold upS; rw [if_neg (by omega)]
      rw [this]
      exact hs b k h1 (by omega)
    · obtain ⟨t1, t2, t3, t4, t5⟩ := d2
      refine ⟨by rw [up_a (by decide)]; exact t1, by rw [up_a (by decide)]; exact t2, fun i hi => ?_, fun i hi => ?_, fun i hi => ?_⟩
      · rw [up_a (by decide), t3 i hi]; exact (a4 i hi).symm
      · rw [up_a (by decide), t4 i hi]; exact (a5 i hi).symm
      · rw [up_a (by decide), t5 i hi]; exact (a6 i hi).symm
  · have hfull : Dd 242 [vA 0, vA 351] s1 (rX 2 s1) := d242_full (by rw [F1 0 3 (by decide) (by omega)]; exact g3)
    refine op_full H (kx := 2) (by decide) W1 F1 G1 (b400 (Or.inr (Or.inr ⟨_, b182 (Or.inl ⟨_, _, e230, hP, _, _, hd, p351, Or.inr ⟨_, _, hfull, rfl⟩⟩), rfl⟩))) ⟨upS s1 682 0 2, 0, m0 (fun b k h1 h2 => G1 b k h1) ?_, up_s, fun b k h => by rw [up_a (by omega)], fun b k h1 h2 => ?_⟩
    · have e3 := G1 682 3 (by decide)
      rw [if_pos (by omega)]
      refine b300_27 ⟨_, _, d245, ?_⟩
      rw [if_neg (show ¬ (2 : Int) = 0 by decide), if_pos rfl]
    · have : upS s1 682 0 2 b k = s1 b k := by unfold upS; rw [if_neg (by omega)]
      rw [this]
      exact G1 b k h1
end
