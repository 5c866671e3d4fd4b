theorem st_text {σ : sg_S} (h : Rel σ) : Step (ns_text σ) (fun τ => md_text τ) := sorry
