def lm_isN : Cond → Bool
  | .fieldLinkNest .. => true
  | .methodLinkNest .. => true
  | _ => false
theorem lm_t1 : lw_tbl.all (fun w => goodWord w || lm_isN w) = true := by decide +kernel
