/-! The words of the tables that the walk uses, and that they go along with the state. -/
def tw_k : Cond → Bool
  | .methodLink _ _ _ => true
  | .code _ _ _ _ => true
  | .instanceMethod _ => true
  | .selects _ _ _ => true
  | .fieldLink _ _ _ _ _ => true
  | .laysFinal _ _ _ _ => true
  | .lays _ _ _ _ => true
  | .static _ => true
  | .classLink _ _ _ => true
  | .initialized _ => true
  | .constantLong _ _ _ => true
  | .constant _ _ _ => true
  | .instantiable _ _ => true
  | .native _ => true
  | .arrayClass _ => true
  | .fieldLinkNest _ _ _ _ _ _ => true
  | .methodLinkNest _ _ _ _ => true
  | .arrayOver _ => true
  | _ => false
def tw_n : Cond → Bool
  | .fieldLinkNest _ _ _ _ _ _ => true
  | .methodLinkNest _ _ _ _ => true
  | _ => false
def tw_o : Cond → Bool
  | .arrayOver _ => true
  | _ => false
def tw_l : List Cond := lw_tbl.filter tw_k
theorem tw_ok : lw_tbl.all (fun w => !(tw_k w) || (tw_n w || (tw_o w || goodWord w))) = true := by decide +kernel
theorem tw_ont {w : Cond} (h : tw_k w = true) : w.onTables = true ∨ (∃ ty, w = .arrayClass ty) ∨ ∃ ty, w = .arrayOver ty := by
  cases w <;> first | exact Or.inl rfl | exact Or.inr (Or.inl ⟨_, rfl⟩) | exact Or.inr (Or.inr ⟨_, rfl⟩) | (simp [tw_k] at h)
def tw_T (U : State) : Prop := ∀ w ∈ tw_l, ∀ a : Array Value, w.before a U = true
