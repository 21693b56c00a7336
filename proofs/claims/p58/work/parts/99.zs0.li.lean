/-! What holds between the law's steps; a text cut, patches made and compared. -/
noncomputable section
/-- after n steps -/
def LI (n : Nat) (w : WS) : Prop := w.1[0]? = some (0, 12, []) ∧ Rel 1000 w.2.2 ∧ w.2.1 682 0 = w.2.2 0 3 ∧ w.2.2 653 1 = 6 * w.2.1 682 1 ∧ w.2.1 682 2 = w.2.2 658 1 ∧ w.2.1 682 3 = w.2.2 402 3 ∧ w.2.1 682 4 = w.2.2 402 4 ∧
  (∀ k : Nat, (k : Int) < w.2.2 402 3 → w.2.1 682 (6 + k) = w.2.2 472 k) ∧ (w.2.1 682 5 = 0 ∨ ∃ t : Nat, t < 4 ∧ w.2.1 682 5 = (t : Int) + 1 ∧ smP w.2.2 (2 + 2 * t) (tpR w.2.2)) ∧
  (∀ a, 682 + w.1.length ≤ a → a < SCR → ∀ k, w.2.1 a k = 0) ∧ w.1.length ≤ n + 1 ∧ w.2.1 682 4 ≤ n
/-- the script stays as it is -/
def Sc (w w' : WS) : Prop := ∀ k, w'.2.1 SCR k = w.2.1 SCR k ∧ w'.2.1 (SCR + 1) k = w.2.1 (SCR + 1) k
theorem Sc_r (w : WS) : Sc w w := fun _ => ⟨rfl, rfl⟩
theorem Sc_t {w w' w'' : WS} (h : Sc w w') (h' : Sc w' w'') : Sc w w'' := fun k => ⟨(h' k).1.trans (h k).1, (h' k).2.trans (h k).2⟩
theorem Sc_e {w w' : WS} (h : w'.2.1 = w.2.1) : Sc w w' := fun k => by rw [h]; exact ⟨rfl, rfl⟩
theorem Sc_u {w w' : WS} {a k : Nat} {v : Int} (ha : a < 1000) (h : w'.2.1 = upS w.2.1 a k v) : Sc w w' := fun i => by
  rw [h]
  have : SCR = 1000000000 := rfl
  exact ⟨up_a (by omega), up_a (by omega)⟩
theorem wSs (w : WS) : wS w w.2.2 = w := rfl
theorem wSx (w : WS) (s : Sg) : (wS w s).2.2 = s := rfl
theorem wSS (w : WS) (s s' : Sg) : wS (wS w s) s' = wS w s' := rfl
theorem Rel_dn {σ : Sg} {c c' : Int} (H : Rel c σ) (h : σ 402 4 ≤ c') : Rel c' σ := by
  obtain ⟨h1, h2, h3, h4, h5, ⟨g1, g2, g3, g4, g5, g6⟩, h7⟩ := H
  exact ⟨h1, h2, h3, h4, h5, ⟨g1, g2, g3, g4, h, g6⟩, h7⟩
theorem LI_b {n : Nat} {w : WS} (L : LI n w) : 0 ≤ w.2.2 402 3 ∧ w.2.2 402 3 ≤ 5 ∧ 0 ≤ w.2.2 0 3 ∧ w.2.2 0 3 ≤ 24 ∧ 0 ≤ w.2.2 402 4 := by
  have h := rel_n L.2.1
  exact ⟨h.2.1.2.1, h.2.1.2.2, h.1.2.1, h.1.2.2, L.2.1.2.2.2.2.2.1.2.2.2.1⟩
/-- where the text of the stack lies -/
theorem tp_in {σ : Sg} (h : 0 ≤ σ 402 3 ∧ σ 402 3 ≤ 5) : tpR σ = 403 ∨ (409 ≤ tpR σ ∧ tpR σ ≤ 461) := by
  unfold tpR blw
  split
  · exact Or.inl rfl
  · right; omega
theorem smP_cg {σ s : Sg} {a b : Nat} (h1 : s a = σ a) (h2 : s (a + 1) = σ (a + 1)) (h3 : s b = σ b) (h4 : s (b + 1) = σ (b + 1)) (H : smP σ a b) : smP s a b := smP_fr h1 h2 h3 h4 H
/-- another joint state, of which the stack, the trees and the deltas are the same -/
theorem LI_on {n : Nat} {w w' : WS} {c : Int} (L : LI n w) (hE : w'.1 = w.1) (hR : Rel c w'.2.2) (h : ∀ x k, x < 682 → KP x k → ¬ knr x → ¬ (2 ≤ x ∧ x ≤ 9) → ¬ (20 ≤ x ∧ x ≤ 331) → ¬ (x = 0 ∧ k = 3) → ¬ (11 ≤ x ∧ x ≤ 18) → ¬ (393 ≤ x ∧ x ≤ 394) → w'.2.2 x k = w.2.2 x k) (h0 : w'.2.1 682 0 = w'.2.2 0 3) (ht : ∀ a k, 682 ≤ a → a < SCR → ¬ (a = 682 ∧ (k = 0 ∨ k = 5)) → w'.2.1 a k = w.2.1 a k) (h5 : w'.2.1 682 5 = 0 ∨ (w'.2.1 682 5 = w.2.1 682 5 ∧ ∀ t : Nat, t < 4 → w.2.1 682 5 = (t : Int) + 1 → ∀ k, w'.2.2 (2 + 2 * t) k = w.2.2 (2 + 2 * t) k ∧ w'.2.2 (2 + 2 * t + 1) k = w.2.2 (2 + 2 * t + 1) k)) : LI n w' := by
  obtain ⟨a1, a2, a3, a4, a5, a6, a7, a8, a9, b1, b2, b3⟩ := L
  have hb := LI_b ⟨a1, a2, a3, a4, a5, a6, a7, a8, a9, b1, b2, b3⟩
  have hs : SCR = 1000000000 := rfl
  have g5 : w.2.2 402 4 ≤ 1000 := a2.2.2.2.2.2.1.2.2.2.2.1
  have e3 := h 402 3 (by decide) (by unfold KP; omega) (by unfold knr; omega) (by omega) (by omega) (by omega) (by omega) (by omega)
  have e4 := h 402 4 (by decide) (by unfold KP; omega) (by unfold knr; omega) (by omega) (by omega) (by omega) (by omega) (by omega)
  have eT : tpR w'.2.2 = tpR w.2.2 := by unfold tpR; rw [e3]
  have u : ∀ k, ¬ (k = 0 ∨ k = 5) → w'.2.1 682 k = w.2.1 682 k := fun k hk => ht 682 k (by decide) (by omega) (by omega)
  refine ⟨by rw [hE]; exact a1, Rel_dn hR (by omega), h0, ?_, ?_, by rw [u 3 (by omega), e3]; exact a6, by rw [u 4 (by omega), e4]; exact a7, fun k hk => ?_, ?_, fun a h1 h2 k => ?_, by rw [hE]; exact b2, by rw [u 4 (by omega)]; exact b3⟩
  · rw [h 653 1 (by decide) (by unfold KP; omega) (by unfold knr; omega) (by omega) (by omega) (by omega) (by omega) (by omega), u 1 (by omega)]; exact a4
  · rw [h 658 1 (by decide) (by unfold KP; omega) (by unfold knr; omega) (by omega) (by omega) (by omega) (by omega) (by omega), u 2 (by omega)]; exact a5
  · rw [e3] at hk
    rw [u (6 + k) (by omega), h 472 k (by decide) (by unfold KP; omega) (by unfold knr; omega) (by omega) (by omega) (by omega) (by omega) (by omega)]
    exact a8 k hk
  · rcases h5 with h5 | ⟨h5, h6⟩
    · exact Or.inl h5
    · rcases a9 with a9 | ⟨t, t1, t2, t3⟩
      · exact Or.inl (h5.trans a9)
      · refine Or.inr ⟨t, t1, h5.trans t2, ?_⟩
        rw [eT]
        have hp := tp_in (σ := w.2.2) ⟨hb.1, hb.2.1⟩
        have g := h6 t t1 t2
        refine smP_cg (funext fun k => (g k).1) (funext fun k => (g k).2) (funext fun k => ?_) (funext fun k => ?_) t3
        · exact h _ k (by omega) (by unfold KP; omega) (by unfold knr; omega) (by omega) (by omega) (by omega) (by omega) (by omega)
        · exact h _ k (by omega) (by unfold KP; omega) (by unfold knr; omega) (by omega) (by omega) (by omega) (by omega) (by omega)
  · rw [hE] at h1
    have hl : 0 < w.1.length := by
      cases hw : w.1 with
      | nil => rw [hw] at a1; cases a1
      | cons _ _ => simp
    rw [ht a k (by omega) h2 (by omega)]
    exact b1 a h1 h2 k
/-- only what can't be seen differs -/
theorem LI_W {n : Nat} {c : Int} {w w' : WS} (L : LI n w) (W : Wi c w w') : LI n w' := by
  refine LI_on L W.2.1 W.1 (fun x k h1 h2 h3 _ _ _ _ _ => W.2.2.2 x k h1 h2 h3) ?_ (fun a k _ _ _ => by rw [W.2.2.1]) (Or.inr ⟨by rw [W.2.2.1], fun t ht _ k => ⟨W.2.2.2 _ k (by omega) (by unfold KP; omega) (by unfold knr; omega), W.2.2.2 _ k (by omega) (by unfold KP; omega) (by unfold knr; omega)⟩⟩)
  rw [W.2.2.1, Wi_c W]
  exact L.2.2.1
theorem LI_mono {n m : Nat} {w : WS} (L : LI n w) (h : n ≤ m) : LI m w := by
  obtain ⟨a1, a2, a3, a4, a5, a6, a7, a8, a9, b1, b2, b3⟩ := L
  exact ⟨a1, a2, a3, a4, a5, a6, a7, a8, a9, b1, by omega, by omega⟩
/-- the mark of the text that is the stack's, once text t is changed -/
def c5n (v : Int) (t : Nat) : Int := if v = (t : Int) + 1 then 0 else v
theorem LI_txt {n : Nat} {w : WS} {s : Sg} {c : Int} {t : Nat} (L : LI n w) (hR : Rel c s) (h : ∀ x k, x < 682 → KP x k → ¬ (x = 2 + 2 * t ∨ x = 2 + 2 * t + 1) → ¬ (393 ≤ x ∧ x ≤ 394) → s x k = w.2.2 x k) (ht : t < 4) : LI n (wS (wU w 682 5 (c5n (w.2.1 682 5) t)) s) := by
  refine LI_on (w' := wS (wU w 682 5 (c5n (w.2.1 682 5) t)) s) L rfl hR (fun x k h1 h2 _ h3 _ _ _ h4 => h x k h1 h2 (by omega) h4) ?_ (fun a k _ _ h3 => ?_) ?_
  · show upS w.2.1 682 5 (c5n (w.2.1 682 5) t) 682 0 = s 0 3
    rw [up_k (by decide), h 0 3 (by decide) (by unfold KP; omega) (by omega) (by omega)]
    exact L.2.2.1
  · show upS w.2.1 682 5 (c5n (w.2.1 682 5) t) a k = w.2.1 a k
    unfold upS
    rw [if_neg (by omega)]
  · show upS w.2.1 682 5 (c5n (w.2.1 682 5) t) 682 5 = 0 ∨ (upS w.2.1 682 5 (c5n (w.2.1 682 5) t) 682 5 = w.2.1 682 5 ∧ ∀ t' : Nat, t' < 4 → w.2.1 682 5 = (t' : Int) + 1 → ∀ k, s (2 + 2 * t') k = w.2.2 (2 + 2 * t') k ∧ s (2 + 2 * t' + 1) k = w.2.2 (2 + 2 * t' + 1) k)
    rw [up_s]
    unfold c5n
    by_cases hc : w.2.1 682 5 = (t : Int) + 1
    · rw [if_pos hc]; exact Or.inl rfl
    · rw [if_neg hc]
      refine Or.inr ⟨rfl, fun t' ht' e k => ⟨h _ k (by omega) (by unfold KP; omega) (by omega) (by omega), h _ k (by omega) (by unfold KP; omega) (by omega) (by omega)⟩⟩
theorem LI_new {n : Nat} {w : WS} {s : Sg} {c : Int} {p nb na : Nat} {O N : Nat → Int} (L : LI n w) (hR : Rel c s) (h : New w.2.2 s p nb na O N) : LI n (wS (wU w 682 0 ((p : Int) + 1)) s) := by
  have p24 : p < 24 := by have h1 := (rel_n hR).1; have h2 := h.1; omega
  refine LI_on (w' := wS (wU w 682 0 ((p : Int) + 1)) s) L rfl hR (fun x k h1 h2 _ _ h5 h6 _ _ => h.2.1 x k h1 h2 h6 (by omega)) ?_ (fun a k _ _ h3 => ?_) (Or.inr ⟨?_, fun t ht _ k => ⟨h.2.1 _ k (by omega) (by unfold KP; omega) (by omega) (by omega), h.2.1 _ k (by omega) (by unfold KP; omega) (by omega) (by omega)⟩⟩)
  · show upS w.2.1 682 0 ((p : Int) + 1) 682 0 = s 0 3
    rw [up_s]
    exact h.1.symm
  · show upS w.2.1 682 0 ((p : Int) + 1) a k = w.2.1 a k
    unfold upS
    rw [if_neg (by omega)]
  · show upS w.2.1 682 0 ((p : Int) + 1) 682 5 = w.2.1 682 5
    rw [up_k (by decide)]
/-- cuts -/
theorem m246 {n : Nat} {w : WS} {t k : Nat} (L : LI n w) (ht : t < 4) (hk : (k : Int) < w.2.2 (2 + 2 * t) 1) : ∃ w', LI n w' ∧ Sc w w' ∧ Lx 246 [vA 0, vA 682, vI t, vI k] w (rO 1 w') := by
  obtain ⟨s2, d1, d2, d3, d4⟩ := c173 L.2.1 ht hk
  have hr : w.2.2 (2 + 2 * t) 1 ≤ 16 := (txl_ok L.2.1 ht).2.1
  refine ⟨_, LI_txt L d2 (fun x k h1 h2 h3 _ => d3 x k h1 h2 h3) ht, Sc_u (by decide) rfl, lb246 ⟨by decide, _, _, Dc_of (q175 (σ := w.2.2) ht), by decide, _, _, Dc_of (q176 (σ := w.2.2) L.2.1 ht hk), L.1, ⟨by decide, by decide⟩, by omega, fun _ => L.1, fun _ => ⟨by decide, by decide⟩, ?_⟩⟩
  refine bK246_33 ⟨L.1, ⟨by decide, by decide⟩, by decide, _, _, d1, ?_⟩
  simp only [wSs]
  rw [if_pos trivial]
  refine ⟨by decide, _, _, Dc_of (q175 (σ := s2) ht), by omega, ?_⟩
  rw [if_pos d4]
  exact bK246_62 ⟨Or.inr rfl, rfl⟩
/-- arePatches -/
theorem PE_f {σ : Sg} {p q : Nat} : PEQ σ (20 + 13 * p) (20 + 13 * q) → PEQ σ (20 + 13 * q) (20 + 13 * p) := fun h => ⟨⟨h.1.1.symm, fun k hk => (h.1.2 k (by rw [h.1.1]; exact hk)).symm⟩, ⟨h.2.1.1.symm, fun k hk => (h.2.1.2 k (by rw [h.2.1.1]; exact hk)).symm⟩, ⟨h.2.2.1.symm, fun k hk => (h.2.2.2 k (by rw [h.2.2.1]; exact hk)).symm⟩⟩
theorem PE_r {σ : Sg} {p : Nat} : PEQ σ (20 + 13 * p) (20 + 13 * p) := ⟨⟨rfl, fun _ _ => rfl⟩, ⟨rfl, fun _ _ => rfl⟩, ⟨rfl, fun _ _ => rfl⟩⟩
end
