/-! ===== two loops side by side ===== -/
section TWO
variable {T U : Type} {G : T → Bool} {B : T → T} {G' : U → Bool} {B' : U → U} {P : T → U → Prop}
theorem wl_two (hG : ∀ t u, P t u → G t = G' u) (hB : ∀ t u, P t u → G t = true → P (B t) (B' u)) : ∀ (b : Nat) (t : T) (u : U), P t u → P (wl G B b t) (wl G' B' b u) := by
  intro b
  induction b with
  | zero => intro t u h; exact h
  | succ b ih =>
    intro t u h
    by_cases g : G t = true
    · rw [wl_t G B b t g, wl_t G' B' b u ((hG t u h).symm.trans g)]
      exact ih _ _ (hB t u h g)
    · rw [wl_f G B _ t g, wl_f G' B' _ u (fun q => g ((hG t u h).trans q))]
      exact h
theorem itn_two (hB : ∀ t u, P t u → G t = true → P (B t) (B' u)) {b : Nat} {t : T} {u : U} (h : P t u) : ∀ j, j ≤ nW G B b t → P (itn B j t) (itn B' j u) := by
  intro j
  induction j with
  | zero => intro _; exact h
  | succ j ih =>
    intro hj
    rw [itn_s, itn_s]
    exact hB _ _ (ih (by omega)) (nW_lt G B b t j (by omega))
theorem itn_two' (hG : ∀ t u, P t u → G t = G' u) (hB : ∀ t u, P t u → G t = true → P (B t) (B' u)) {b : Nat} {t : T} {u : U} (h : P t u) : ∀ j, j ≤ nW G' B' b u → P (itn B j t) (itn B' j u) := by
  intro j
  induction j with
  | zero => intro _; exact h
  | succ j ih =>
    intro hj
    rw [itn_s, itn_s]
    have hp := ih (by omega)
    exact hB _ _ hp ((hG _ _ hp).trans (nW_lt G' B' b u j (by omega)))
end TWO
