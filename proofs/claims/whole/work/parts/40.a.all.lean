theorem pairs_all (l : Launch) : Pairs Rel l :=
  ⟨fun _ _ _ _ h => h.later, p_format l, p_add l, p_flush l, p_sync l, p_commit l, p_crash l, p_open l, p_acknowledged l, p_get l, p_times l, p_record l, p_file l, p_use l, p_octet l, p_poke l, p_bad l, p_queued l, p_count l⟩
