/-! The class's cells keep among themselves. -/
noncomputable section
def shOkB (N : Nat) (S : List SH) : Bool := S.all (fun s => s.2.2.all (fun o => match o with
  | some (some r) => decide (r < N)
  | _ => true))
set_option maxRecDepth 100000 in
theorem SH0_okB : shOkB 682 (SH0.take 682) = true := by decide +kernel
theorem SH0_cl (σ : Nat → Nat → Int) : clH 682 (SH0, σ) := by
  intro a l s hs i r hr
  have h1 : s ∈ SH0.take 682 := by
    refine List.mem_of_getElem? (i := a) ?_
    rw [List.getElem?_take_of_lt l]
    exact hs
  have h2 := List.all_eq_true.mp (List.all_eq_true.mp SH0_okB s h1) _ (List.mem_of_getElem? hr)
  exact of_decide_eq_true h2
/-- a call of the class over the joint heap is the same call over any heap that begins with the class's cells -/
theorem Dd_swap {j : Nat} {as : List AV} {σ σ' : Sg} {v : Option AV ⊕ Nat} (E : List SH) (τ : Sg) (hA : clS 682 as) (H : Dd j as σ (v, σ')) : Ret j (entryF j as (SH0.take 682 ++ E, mixS 682 τ σ)) (v, (SH0.take 682 ++ E, mixS 682 τ σ')) := by
  refine Ret_swap (by decide) E τ ?_ (fun v e => by cases e) (SH0_cl σ) H
  intro u hu
  rcases List.mem_append.mp hu with hu | hu
  · obtain ⟨x, hx, ex⟩ := List.mem_map.mp hu
    cases ex
    exact hA _ hx
  · have := (List.mem_replicate.mp hu).2
    cases this
end
