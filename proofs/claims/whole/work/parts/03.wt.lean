theorem wm_h {a : Cond} {l : List Cond} : a ∈ a :: l := List.Mem.head _
theorem wm_1 {a b : Cond} {l : List Cond} (h : a ∈ l) : a ∈ b :: l := List.Mem.tail _ h
theorem wm_2 {a b c : Cond} {l : List Cond} (h : a ∈ l) : a ∈ b :: c :: l := wm_1 (wm_1 h)
theorem wm_4 {a b c d e : Cond} {l : List Cond} (h : a ∈ l) : a ∈ b :: c :: d :: e :: l := wm_2 (wm_2 h)
theorem wm_8 {a b c d e f g i j : Cond} {l : List Cond} (h : a ∈ l) : a ∈ b :: c :: d :: e :: f :: g :: i :: j :: l := wm_4 (wm_4 h)
theorem wm_16 {a b c d e f g i j k m n o p q r s : Cond} {l : List Cond} (h : a ∈ l) : a ∈ b :: c :: d :: e :: f :: g :: i :: j :: k :: m :: n :: o :: p :: q :: r :: s :: l := wm_8 (wm_8 h)
theorem wm_l {a : Cond} {x y : List Cond} (h : a ∈ x) : a ∈ x ++ y := List.mem_append_left _ h
theorem wm_r {a : Cond} {x y : List Cond} (h : a ∈ y) : a ∈ x ++ y := List.mem_append_right _ h
theorem wm_n {p : Cond → Prop} : ∀ w ∈ ([] : List Cond), p w := fun _ h => absurd h List.not_mem_nil
theorem wm_c {p : Cond → Prop} {a : Cond} {l : List Cond} (h : p a ∧ ∀ w ∈ l, p w) : ∀ w ∈ a :: l, p w := List.forall_mem_cons.mpr h
theorem wm_a {p : Cond → Prop} {x y : List Cond} (h : (∀ w ∈ x, p w) ∧ ∀ w ∈ y, p w) : ∀ w ∈ x ++ y, p w := List.forall_mem_append.mpr h
theorem wk_X8_add_X80 : ∀ w ∈ wsX80, w ∈ wsX8_add := fun _ h => (wm_1 (wm_r h))
theorem wk_X8_add_X8_add_r1 : ∀ w ∈ wsX8_add_r1, w ∈ wsX8_add := fun _ h => (wm_1 (wm_l (wm_l h)))
theorem wk_X8_add_X8_add_r2 : ∀ w ∈ wsX8_add_r2, w ∈ wsX8_add := fun _ h => (wm_1 (wm_l (wm_r h)))
theorem wk_X8_at_X80 : ∀ w ∈ wsX80, w ∈ wsX8_at := fun _ h => (wm_1 (wm_r h))
theorem wk_X8_basis_X80 : ∀ w ∈ wsX80, w ∈ wsX8_basis := fun _ h => (wm_1 (wm_r h))
theorem wk_X8_bracket_X80 : ∀ w ∈ wsX80, w ∈ wsX8_bracket := fun _ h => (wm_1 (wm_r h))
theorem wk_X8_bracket_X8_bracket_r1 : ∀ w ∈ wsX8_bracket_r1, w ∈ wsX8_bracket := fun _ h => (wm_1 (wm_l (wm_l h)))
theorem wk_X8_bracket_X8_bracket_r2 : ∀ w ∈ wsX8_bracket_r2, w ∈ wsX8_bracket := fun _ h => (wm_1 (wm_l (wm_r h)))
theorem wk_X8_bracketOf_X80 : ∀ w ∈ wsX80, w ∈ wsX8_bracketOf := fun _ h => (wm_1 (wm_r h))
theorem wk_X8_bracketOf_X8_bracketOf_r1 : ∀ w ∈ wsX8_bracketOf_r1, w ∈ wsX8_bracketOf := fun _ h => (wm_1 (wm_l (wm_l h)))
theorem wk_X8_bracketOf_X8_bracketOf_r2 : ∀ w ∈ wsX8_bracketOf_r2, w ∈ wsX8_bracketOf := fun _ h => (wm_1 (wm_l (wm_r h)))
theorem wk_X8_clear_X80 : ∀ w ∈ wsX80, w ∈ wsX8_clear := fun _ h => (wm_1 (wm_r h))
theorem wk_X8_closes_X80 : ∀ w ∈ wsX80, w ∈ wsX8_closes := fun _ h => (wm_1 (wm_r h))
theorem wk_X8_closes_X8_closes_r1 : ∀ w ∈ wsX8_closes_r1, w ∈ wsX8_closes := fun _ h => (wm_1 (wm_l (wm_l h)))
theorem wk_X8_closes_X8_closes_r2 : ∀ w ∈ wsX8_closes_r2, w ∈ wsX8_closes := fun _ h => (wm_1 (wm_l (wm_r (wm_l h))))
theorem wk_X8_closes_X8_closes_r3 : ∀ w ∈ wsX8_closes_r3, w ∈ wsX8_closes := fun _ h => (wm_1 (wm_l (wm_r (wm_r h))))
theorem wk_X8_closesTerm_X80 : ∀ w ∈ wsX80, w ∈ wsX8_closesTerm := fun _ h => (wm_1 (wm_r h))
theorem wk_X8_codeOf_X80 : ∀ w ∈ wsX80, w ∈ wsX8_codeOf := fun _ h => (wm_1 (wm_r h))
theorem wk_X8_comes_X80 : ∀ w ∈ wsX80, w ∈ wsX8_comes := fun _ h => (wm_1 (wm_r h))
theorem wk_X8_comes_X8_comes_r1 : ∀ w ∈ wsX8_comes_r1, w ∈ wsX8_comes := fun _ h => (wm_1 (wm_l (wm_l h)))
theorem wk_X8_comes_X8_comes_r2 : ∀ w ∈ wsX8_comes_r2, w ∈ wsX8_comes := fun _ h => (wm_1 (wm_l (wm_r h)))
theorem wk_X8_derive_X80 : ∀ w ∈ wsX80, w ∈ wsX8_derive := fun _ h => (wm_1 (wm_r h))
theorem wk_X8_derive_X8_derive_r1 : ∀ w ∈ wsX8_derive_r1, w ∈ wsX8_derive := fun _ h => (wm_1 (wm_l (wm_l h)))
theorem wk_X8_derive_X8_derive_r2 : ∀ w ∈ wsX8_derive_r2, w ∈ wsX8_derive := fun _ h => (wm_1 (wm_l (wm_r h)))
theorem wk_X8_derives_X80 : ∀ w ∈ wsX80, w ∈ wsX8_derives := fun _ h => (wm_1 (wm_r h))
theorem wk_X8_digitsFrom_X80 : ∀ w ∈ wsX80, w ∈ wsX8_digitsFrom := fun _ h => (wm_1 (wm_r h))
theorem wk_X8_exp_X80 : ∀ w ∈ wsX80, w ∈ wsX8_exp := fun _ h => (wm_1 (wm_r h))
theorem wk_X8_exp_X8_exp_r1 : ∀ w ∈ wsX8_exp_r1, w ∈ wsX8_exp := fun _ h => (wm_1 (wm_l (wm_l h)))
theorem wk_X8_exp_X8_exp_r2 : ∀ w ∈ wsX8_exp_r2, w ∈ wsX8_exp := fun _ h => (wm_1 (wm_l (wm_r (wm_l h))))
theorem wk_X8_exp_X8_exp_r3 : ∀ w ∈ wsX8_exp_r3, w ∈ wsX8_exp := fun _ h => (wm_1 (wm_l (wm_r (wm_r h))))
theorem wk_X8_factor_X80 : ∀ w ∈ wsX80, w ∈ wsX8_factor := fun _ h => (wm_1 (wm_r h))
theorem wk_X8_factor_X8_factor_r1 : ∀ w ∈ wsX8_factor_r1, w ∈ wsX8_factor := fun _ h => (wm_1 (wm_l (wm_l h)))
theorem wk_X8_factor_X8_factor_r2 : ∀ w ∈ wsX8_factor_r2, w ∈ wsX8_factor := fun _ h => (wm_1 (wm_l (wm_r h)))
theorem wk_X8_firstChief_X80 : ∀ w ∈ wsX80, w ∈ wsX8_firstChief := fun _ h => (wm_1 (wm_r h))
theorem wk_X8_group_X80 : ∀ w ∈ wsX80, w ∈ wsX8_group := fun _ h => (wm_1 (wm_r h))
theorem wk_X8_group_X8_group_r1 : ∀ w ∈ wsX8_group_r1, w ∈ wsX8_group := fun _ h => (wm_1 (wm_l (wm_l h)))
theorem wk_X8_group_X8_group_r2 : ∀ w ∈ wsX8_group_r2, w ∈ wsX8_group := fun _ h => (wm_1 (wm_l (wm_r (wm_l h))))
theorem wk_X8_group_X8_group_r3 : ∀ w ∈ wsX8_group_r3, w ∈ wsX8_group := fun _ h => (wm_1 (wm_l (wm_r (wm_r h))))
theorem wk_X8_init_X80 : ∀ w ∈ wsX80, w ∈ wsX8_init := fun _ h => (wm_1 (wm_r h))
theorem wk_X8_init_X8_init_r1 : ∀ w ∈ wsX8_init_r1, w ∈ wsX8_init := fun _ h => (wm_1 (wm_l (wm_l h)))
theorem wk_X8_init_X8_init_r2 : ∀ w ∈ wsX8_init_r2, w ∈ wsX8_init := fun _ h => (wm_1 (wm_l (wm_r (wm_l h))))
theorem wk_X8_init_X8_init_r3 : ∀ w ∈ wsX8_init_r3, w ∈ wsX8_init := fun _ h => (wm_1 (wm_l (wm_r (wm_r h))))
theorem wk_X8_inverse_X80 : ∀ w ∈ wsX80, w ∈ wsX8_inverse := fun _ h => (wm_1 (wm_r h))
theorem wk_X8_inverse_X8_inverse_r1 : ∀ w ∈ wsX8_inverse_r1, w ∈ wsX8_inverse := fun _ h => (wm_1 (wm_l (wm_l h)))
theorem wk_X8_inverse_X8_inverse_r2 : ∀ w ∈ wsX8_inverse_r2, w ∈ wsX8_inverse := fun _ h => (wm_1 (wm_l (wm_r (wm_l h))))
theorem wk_X8_inverse_X8_inverse_r3 : ∀ w ∈ wsX8_inverse_r3, w ∈ wsX8_inverse := fun _ h => (wm_1 (wm_l (wm_r (wm_r h))))
theorem wk_X8_isAhead_X80 : ∀ w ∈ wsX80, w ∈ wsX8_isAhead := fun _ h => (wm_1 (wm_r h))
theorem wk_X8_isChief_X80 : ∀ w ∈ wsX80, w ∈ wsX8_isChief := fun _ h => (wm_1 (wm_r h))
theorem wk_X8_isFirst_X80 : ∀ w ∈ wsX80, w ∈ wsX8_isFirst := fun _ h => (wm_1 (wm_r h))
theorem wk_X8_isLie_X80 : ∀ w ∈ wsX80, w ∈ wsX8_isLie := fun _ h => (wm_1 (wm_r h))
theorem wk_X8_isLie_X8_isLie_r1 : ∀ w ∈ wsX8_isLie_r1, w ∈ wsX8_isLie := fun _ h => (wm_1 (wm_l (wm_l h)))
theorem wk_X8_isLie_X8_isLie_r2 : ∀ w ∈ wsX8_isLie_r2, w ∈ wsX8_isLie := fun _ h => (wm_1 (wm_l (wm_r h)))
theorem wk_X8_lie_X80 : ∀ w ∈ wsX80, w ∈ wsX8_lie := fun _ h => (wm_1 (wm_r h))
theorem wk_X8_lie_X8_lie_r1 : ∀ w ∈ wsX8_lie_r1, w ∈ wsX8_lie := fun _ h => (wm_1 (wm_l (wm_l h)))
theorem wk_X8_lie_X8_lie_r2 : ∀ w ∈ wsX8_lie_r2, w ∈ wsX8_lie := fun _ h => (wm_1 (wm_l (wm_r (wm_l h))))
theorem wk_X8_lie_X8_lie_r3 : ∀ w ∈ wsX8_lie_r3, w ∈ wsX8_lie := fun _ h => (wm_1 (wm_l (wm_r (wm_r h))))
theorem wk_X8_log_X80 : ∀ w ∈ wsX80, w ∈ wsX8_log := fun _ h => (wm_1 (wm_r h))
theorem wk_X8_log_X8_log_r1 : ∀ w ∈ wsX8_log_r1, w ∈ wsX8_log := fun _ h => (wm_1 (wm_l (wm_l h)))
theorem wk_X8_log_X8_log_r2 : ∀ w ∈ wsX8_log_r2, w ∈ wsX8_log := fun _ h => (wm_1 (wm_l (wm_r (wm_l h))))
theorem wk_X8_log_X8_log_r3 : ∀ w ∈ wsX8_log_r3, w ∈ wsX8_log := fun _ h => (wm_1 (wm_l (wm_r (wm_r h))))
theorem wk_X8_lyndon_X80 : ∀ w ∈ wsX80, w ∈ wsX8_lyndon := fun _ h => (wm_1 (wm_r h))
theorem wk_X8_lyndons_X80 : ∀ w ∈ wsX80, w ∈ wsX8_lyndons := fun _ h => (wm_1 (wm_r h))
theorem wk_X8_makes_X80 : ∀ w ∈ wsX80, w ∈ wsX8_makes := fun _ h => (wm_1 (wm_r h))
theorem wk_X8_makes_X8_makes_r1 : ∀ w ∈ wsX8_makes_r1, w ∈ wsX8_makes := fun _ h => (wm_1 (wm_l (wm_l h)))
theorem wk_X8_makes_X8_makes_r2 : ∀ w ∈ wsX8_makes_r2, w ∈ wsX8_makes := fun _ h => (wm_1 (wm_l (wm_r h)))
theorem wk_X8_multiplies_X80 : ∀ w ∈ wsX80, w ∈ wsX8_multiplies := fun _ h => (wm_1 (wm_r h))
theorem wk_X8_number_X80 : ∀ w ∈ wsX80, w ∈ wsX8_number := fun _ h => (wm_1 (wm_r h))
theorem wk_X8_ones_X80 : ∀ w ∈ wsX80, w ∈ wsX8_ones := fun _ h => (wm_1 (wm_r h))
theorem wk_X8_opensFrame_X80 : ∀ w ∈ wsX80, w ∈ wsX8_opensFrame := fun _ h => (wm_1 (wm_r h))
theorem wk_X8_order_X80 : ∀ w ∈ wsX80, w ∈ wsX8_order := fun _ h => (wm_1 (wm_r h))
theorem wk_X8_order_X8_order_r1 : ∀ w ∈ wsX8_order_r1, w ∈ wsX8_order := fun _ h => (wm_1 (wm_l (wm_l h)))
theorem wk_X8_order_X8_order_r2 : ∀ w ∈ wsX8_order_r2, w ∈ wsX8_order := fun _ h => (wm_1 (wm_l (wm_r (wm_l h))))
theorem wk_X8_order_X8_order_r3 : ∀ w ∈ wsX8_order_r3, w ∈ wsX8_order := fun _ h => (wm_1 (wm_l (wm_r (wm_r h))))
theorem wk_X8_ordered_X80 : ∀ w ∈ wsX80, w ∈ wsX8_ordered := fun _ h => (wm_1 (wm_r h))
theorem wk_X8_ordered_X8_ordered_r1 : ∀ w ∈ wsX8_ordered_r1, w ∈ wsX8_ordered := fun _ h => (wm_1 (wm_l (wm_l h)))
theorem wk_X8_ordered_X8_ordered_r2 : ∀ w ∈ wsX8_ordered_r2, w ∈ wsX8_ordered := fun _ h => (wm_1 (wm_l (wm_r h)))
theorem wk_X8_put_X80 : ∀ w ∈ wsX80, w ∈ wsX8_put := fun _ h => (wm_1 (wm_r h))
theorem wk_X8_put_X8_put_r1 : ∀ w ∈ wsX8_put_r1, w ∈ wsX8_put := fun _ h => (wm_1 (wm_l (wm_l h)))
theorem wk_X8_put_X8_put_r2 : ∀ w ∈ wsX8_put_r2, w ∈ wsX8_put := fun _ h => (wm_1 (wm_l (wm_r h)))
theorem wk_X8_read_X80 : ∀ w ∈ wsX80, w ∈ wsX8_read := fun _ h => (wm_1 (wm_r h))
theorem wk_X8_read_X8_read_r1 : ∀ w ∈ wsX8_read_r1, w ∈ wsX8_read := fun _ h => (wm_1 (wm_l (wm_l h)))
theorem wk_X8_read_X8_read_r2 : ∀ w ∈ wsX8_read_r2, w ∈ wsX8_read := fun _ h => (wm_1 (wm_l (wm_r (wm_l h))))
theorem wk_X8_read_X8_read_r3 : ∀ w ∈ wsX8_read_r3, w ∈ wsX8_read := fun _ h => (wm_1 (wm_l (wm_r (wm_r (wm_l h)))))
theorem wk_X8_read_X8_read_r4 : ∀ w ∈ wsX8_read_r4, w ∈ wsX8_read := fun _ h => (wm_1 (wm_l (wm_r (wm_r (wm_r (wm_l h))))))
theorem wk_X8_read_X8_read_r5 : ∀ w ∈ wsX8_read_r5, w ∈ wsX8_read := fun _ h => (wm_1 (wm_l (wm_r (wm_r (wm_r (wm_r h))))))
theorem wk_X8_reads_X80 : ∀ w ∈ wsX80, w ∈ wsX8_reads := fun _ h => (wm_1 (wm_r h))
theorem wk_X8_reads_X8_reads_r1 : ∀ w ∈ wsX8_reads_r1, w ∈ wsX8_reads := fun _ h => (wm_1 (wm_l (wm_l h)))
theorem wk_X8_reads_X8_reads_r2 : ∀ w ∈ wsX8_reads_r2, w ∈ wsX8_reads := fun _ h => (wm_1 (wm_l (wm_r h)))
theorem wk_X8_relate_X80 : ∀ w ∈ wsX80, w ∈ wsX8_relate := fun _ h => (wm_1 (wm_r h))
theorem wk_X8_relate_X8_relate_r1 : ∀ w ∈ wsX8_relate_r1, w ∈ wsX8_relate := fun _ h => (wm_1 (wm_l (wm_l h)))
theorem wk_X8_relate_X8_relate_r2 : ∀ w ∈ wsX8_relate_r2, w ∈ wsX8_relate := fun _ h => (wm_1 (wm_l (wm_r (wm_l h))))
theorem wk_X8_relate_X8_relate_r3 : ∀ w ∈ wsX8_relate_r3, w ∈ wsX8_relate := fun _ h => (wm_1 (wm_l (wm_r (wm_r h))))
theorem wk_X8_replace_X80 : ∀ w ∈ wsX80, w ∈ wsX8_replace := fun _ h => (wm_1 (wm_r h))
theorem wk_X8_replace_X8_replace_r1 : ∀ w ∈ wsX8_replace_r1, w ∈ wsX8_replace := fun _ h => (wm_1 (wm_l (wm_l h)))
theorem wk_X8_replace_X8_replace_r2 : ∀ w ∈ wsX8_replace_r2, w ∈ wsX8_replace := fun _ h => (wm_1 (wm_l (wm_r (wm_l h))))
theorem wk_X8_replace_X8_replace_r3 : ∀ w ∈ wsX8_replace_r3, w ∈ wsX8_replace := fun _ h => (wm_1 (wm_l (wm_r (wm_r h))))
theorem wk_X8_scheme_X80 : ∀ w ∈ wsX80, w ∈ wsX8_scheme := fun _ h => (wm_1 (wm_r h))
theorem wk_X8_scheme_X8_scheme_r1 : ∀ w ∈ wsX8_scheme_r1, w ∈ wsX8_scheme := fun _ h => (wm_1 (wm_l (wm_l h)))
theorem wk_X8_scheme_X8_scheme_r2 : ∀ w ∈ wsX8_scheme_r2, w ∈ wsX8_scheme := fun _ h => (wm_1 (wm_l (wm_r (wm_l h))))
theorem wk_X8_scheme_X8_scheme_r3 : ∀ w ∈ wsX8_scheme_r3, w ∈ wsX8_scheme := fun _ h => (wm_1 (wm_l (wm_r (wm_r h))))
theorem wk_X8_series_X80 : ∀ w ∈ wsX80, w ∈ wsX8_series := fun _ h => (wm_1 (wm_r h))
theorem wk_X8_series_X8_series_r1 : ∀ w ∈ wsX8_series_r1, w ∈ wsX8_series := fun _ h => (wm_1 (wm_l (wm_l h)))
theorem wk_X8_series_X8_series_r2 : ∀ w ∈ wsX8_series_r2, w ∈ wsX8_series := fun _ h => (wm_1 (wm_l (wm_r h)))
theorem wk_X8_seriesOf_X80 : ∀ w ∈ wsX80, w ∈ wsX8_seriesOf := fun _ h => (wm_1 (wm_r h))
theorem wk_X8_seriesOf_X8_seriesOf_r1 : ∀ w ∈ wsX8_seriesOf_r1, w ∈ wsX8_seriesOf := fun _ h => (wm_1 (wm_l (wm_l h)))
theorem wk_X8_seriesOf_X8_seriesOf_r2 : ∀ w ∈ wsX8_seriesOf_r2, w ∈ wsX8_seriesOf := fun _ h => (wm_1 (wm_l (wm_r (wm_l h))))
theorem wk_X8_seriesOf_X8_seriesOf_r3 : ∀ w ∈ wsX8_seriesOf_r3, w ∈ wsX8_seriesOf := fun _ h => (wm_1 (wm_l (wm_r (wm_r h))))
theorem wk_X8_share_X80 : ∀ w ∈ wsX80, w ∈ wsX8_share := fun _ h => (wm_1 (wm_r h))
theorem wk_X8_share_X8_share_r1 : ∀ w ∈ wsX8_share_r1, w ∈ wsX8_share := fun _ h => (wm_1 (wm_l (wm_l h)))
theorem wk_X8_share_X8_share_r2 : ∀ w ∈ wsX8_share_r2, w ∈ wsX8_share := fun _ h => (wm_1 (wm_l (wm_r (wm_l h))))
theorem wk_X8_share_X8_share_r3 : ∀ w ∈ wsX8_share_r3, w ∈ wsX8_share := fun _ h => (wm_1 (wm_l (wm_r (wm_r h))))
theorem wk_X8_shares_X80 : ∀ w ∈ wsX80, w ∈ wsX8_shares := fun _ h => (wm_1 (wm_r h))
theorem wk_X8_shares_X8_shares_r1 : ∀ w ∈ wsX8_shares_r1, w ∈ wsX8_shares := fun _ h => (wm_1 (wm_l (wm_l h)))
theorem wk_X8_shares_X8_shares_r2 : ∀ w ∈ wsX8_shares_r2, w ∈ wsX8_shares := fun _ h => (wm_1 (wm_l (wm_r h)))
theorem wk_X8_shuffle_X80 : ∀ w ∈ wsX80, w ∈ wsX8_shuffle := fun _ h => (wm_1 (wm_r h))
theorem wk_X8_shuffle_X8_shuffle_r1 : ∀ w ∈ wsX8_shuffle_r1, w ∈ wsX8_shuffle := fun _ h => (wm_1 (wm_l (wm_l h)))
theorem wk_X8_shuffle_X8_shuffle_r2 : ∀ w ∈ wsX8_shuffle_r2, w ∈ wsX8_shuffle := fun _ h => (wm_1 (wm_l (wm_r h)))
theorem wk_X8_side_X80 : ∀ w ∈ wsX80, w ∈ wsX8_side := fun _ h => (wm_1 (wm_r h))
theorem wk_X8_size_X80 : ∀ w ∈ wsX80, w ∈ wsX8_size := fun _ h => (wm_1 (wm_r h))
theorem wk_X8_size_X8_size_r1 : ∀ w ∈ wsX8_size_r1, w ∈ wsX8_size := fun _ h => (wm_1 (wm_l (wm_l h)))
theorem wk_X8_size_X8_size_r2 : ∀ w ∈ wsX8_size_r2, w ∈ wsX8_size := fun _ h => (wm_1 (wm_l (wm_r h)))
theorem wk_X8_step_X80 : ∀ w ∈ wsX80, w ∈ wsX8_step := fun _ h => (wm_1 (wm_r h))
theorem wk_X8_step_X8_step_r1 : ∀ w ∈ wsX8_step_r1, w ∈ wsX8_step := fun _ h => (wm_1 (wm_l (wm_l h)))
theorem wk_X8_step_X8_step_r2 : ∀ w ∈ wsX8_step_r2, w ∈ wsX8_step := fun _ h => (wm_1 (wm_l (wm_r h)))
theorem wk_X8_table_X80 : ∀ w ∈ wsX80, w ∈ wsX8_table := fun _ h => (wm_1 (wm_r h))
theorem wk_X8_table_X8_table_r1 : ∀ w ∈ wsX8_table_r1, w ∈ wsX8_table := fun _ h => (wm_1 (wm_l (wm_l h)))
theorem wk_X8_table_X8_table_r2 : ∀ w ∈ wsX8_table_r2, w ∈ wsX8_table := fun _ h => (wm_1 (wm_l (wm_r (wm_l h))))
theorem wk_X8_table_X8_table_r3 : ∀ w ∈ wsX8_table_r3, w ∈ wsX8_table := fun _ h => (wm_1 (wm_l (wm_r (wm_r h))))
theorem wk_X8_text_X80 : ∀ w ∈ wsX80, w ∈ wsX8_text := fun _ h => (wm_1 (wm_r h))
theorem wk_X8_times_X80 : ∀ w ∈ wsX80, w ∈ wsX8_times := fun _ h => (wm_1 (wm_r h))
theorem wk_X8_times_X8_times_r1 : ∀ w ∈ wsX8_times_r1, w ∈ wsX8_times := fun _ h => (wm_1 (wm_l (wm_l h)))
theorem wk_X8_times_X8_times_r2 : ∀ w ∈ wsX8_times_r2, w ∈ wsX8_times := fun _ h => (wm_1 (wm_l (wm_r h)))
theorem wk_X8_turn_X80 : ∀ w ∈ wsX80, w ∈ wsX8_turn := fun _ h => (wm_1 (wm_r h))
theorem wk_X8_turn_X8_turn_r1 : ∀ w ∈ wsX8_turn_r1, w ∈ wsX8_turn := fun _ h => (wm_1 (wm_l (wm_l h)))
theorem wk_X8_turn_X8_turn_r2 : ∀ w ∈ wsX8_turn_r2, w ∈ wsX8_turn := fun _ h => (wm_1 (wm_l (wm_r h)))
theorem wk_X8_works_X80 : ∀ w ∈ wsX80, w ∈ wsX8_works := fun _ h => (wm_1 (wm_r h))
theorem wk_X8_works_X8_works_r1 : ∀ w ∈ wsX8_works_r1, w ∈ wsX8_works := fun _ h => (wm_1 (wm_l (wm_l h)))
theorem wk_X8_works_X8_works_r2 : ∀ w ∈ wsX8_works_r2, w ∈ wsX8_works := fun _ h => (wm_1 (wm_l (wm_r (wm_l h))))
theorem wk_X8_works_X8_works_r3 : ∀ w ∈ wsX8_works_r3, w ∈ wsX8_works := fun _ h => (wm_1 (wm_l (wm_r (wm_r (wm_l h)))))
theorem wk_X8_works_X8_works_r4 : ∀ w ∈ wsX8_works_r4, w ∈ wsX8_works := fun _ h => (wm_1 (wm_l (wm_r (wm_r (wm_r h)))))
set_option maxRecDepth 20000 in
theorem gd_J7_copyOf_59c91 : wsJ7_copyOf_59c91.all goodWord = true := by decide +kernel
set_option maxRecDepth 20000 in
theorem gd_J7_fill_53178 : wsJ7_fill_53178.all goodWord = true := by decide +kernel
set_option maxRecDepth 20000 in
theorem gd_J7_fill_fda19 : wsJ7_fill_fda19.all goodWord = true := by decide +kernel
set_option maxRecDepth 20000 in
theorem gd_J7_rangeCheck_23922 : wsJ7_rangeCheck_23922.all goodWord = true := by decide +kernel
set_option maxRecDepth 20000 in
theorem gd_J9_floorMod_7cf53 : wsJ9_floorMod_7cf53.all goodWord = true := by decide +kernel
set_option maxRecDepth 20000 in
theorem gd_X3_minus : wsX3_minus.all goodWord = true := by decide +kernel
set_option maxRecDepth 20000 in
theorem gd_X3_nearNought : wsX3_nearNought.all goodWord = true := by decide +kernel
set_option maxRecDepth 20000 in
theorem gd_X3_plus : wsX3_plus.all goodWord = true := by decide +kernel
set_option maxRecDepth 20000 in
theorem gd_X3_product : wsX3_product.all goodWord = true := by decide +kernel
set_option maxRecDepth 20000 in
theorem gd_X3_productMore : wsX3_productMore.all goodWord = true := by decide +kernel
set_option maxRecDepth 20000 in
theorem gd_X3_ratio : wsX3_ratio.all goodWord = true := by decide +kernel
set_option maxRecDepth 20000 in
theorem gd_X3_reciprocal : wsX3_reciprocal.all goodWord = true := by decide +kernel
set_option maxRecDepth 20000 in
theorem gd_X8_add : wsX8_add.all goodWord = true := by decide +kernel
set_option maxRecDepth 20000 in
theorem gd_X8_adds : wsX8_adds.all goodWord = true := by decide +kernel
set_option maxRecDepth 20000 in
theorem gd_X8_areSums : wsX8_areSums.all goodWord = true := by decide +kernel
set_option maxRecDepth 20000 in
theorem gd_X8_at : wsX8_at.all goodWord = true := by decide +kernel
set_option maxRecDepth 20000 in
theorem gd_X8_basis : wsX8_basis.all goodWord = true := by decide +kernel
set_option maxRecDepth 20000 in
theorem gd_X8_beginning : wsX8_beginning.all goodWord = true := by decide +kernel
set_option maxRecDepth 20000 in
theorem gd_X8_begins : wsX8_begins.all goodWord = true := by decide +kernel
set_option maxRecDepth 20000 in
theorem gd_X8_bracket : wsX8_bracket.all goodWord = true := by decide +kernel
set_option maxRecDepth 20000 in
theorem gd_X8_bracketOf : wsX8_bracketOf.all goodWord = true := by decide +kernel
set_option maxRecDepth 20000 in
theorem gd_X8_brackets : wsX8_brackets.all goodWord = true := by decide +kernel
set_option maxRecDepth 20000 in
theorem gd_X8_byteAt : wsX8_byteAt.all goodWord = true := by decide +kernel
set_option maxRecDepth 20000 in
theorem gd_X8_clear : wsX8_clear.all goodWord = true := by decide +kernel
set_option maxRecDepth 20000 in
theorem gd_X8_clears : wsX8_clears.all goodWord = true := by decide +kernel
set_option maxRecDepth 20000 in
theorem gd_X8_closes : wsX8_closes.all goodWord = true := by decide +kernel
set_option maxRecDepth 20000 in
theorem gd_X8_closesTerm : wsX8_closesTerm.all goodWord = true := by decide +kernel
set_option maxRecDepth 20000 in
theorem gd_X8_codeOf : wsX8_codeOf.all goodWord = true := by decide +kernel
set_option maxRecDepth 20000 in
theorem gd_X8_comes : wsX8_comes.all goodWord = true := by decide +kernel
set_option maxRecDepth 20000 in
theorem gd_X8_copies : wsX8_copies.all goodWord = true := by decide +kernel
set_option maxRecDepth 20000 in
theorem gd_X8_count : wsX8_count.all goodWord = true := by decide +kernel
set_option maxRecDepth 20000 in
theorem gd_X8_derive : wsX8_derive.all goodWord = true := by decide +kernel
set_option maxRecDepth 20000 in
theorem gd_X8_derives : wsX8_derives.all goodWord = true := by decide +kernel
set_option maxRecDepth 20000 in
theorem gd_X8_digitsFrom : wsX8_digitsFrom.all goodWord = true := by decide +kernel
set_option maxRecDepth 20000 in
theorem gd_X8_end : wsX8_end.all goodWord = true := by decide +kernel
set_option maxRecDepth 20000 in
theorem gd_X8_exp : wsX8_exp.all goodWord = true := by decide +kernel
set_option maxRecDepth 20000 in
theorem gd_X8_factor : wsX8_factor.all goodWord = true := by decide +kernel
set_option maxRecDepth 20000 in
theorem gd_X8_feed : wsX8_feed.all goodWord = true := by decide +kernel
set_option maxRecDepth 20000 in
theorem gd_X8_firstChief : wsX8_firstChief.all goodWord = true := by decide +kernel
set_option maxRecDepth 20000 in
theorem gd_X8_floorMod : wsX8_floorMod.all goodWord = true := by decide +kernel
set_option maxRecDepth 20000 in
theorem gd_X8_fraction : wsX8_fraction.all goodWord = true := by decide +kernel
set_option maxRecDepth 20000 in
theorem gd_X8_group : wsX8_group.all goodWord = true := by decide +kernel
set_option maxRecDepth 20000 in
theorem gd_X8_in : wsX8_in.all goodWord = true := by decide +kernel
set_option maxRecDepth 20000 in
theorem gd_X8_init : wsX8_init.all goodWord = true := by decide +kernel
set_option maxRecDepth 20000 in
theorem gd_X8_inverse : wsX8_inverse.all goodWord = true := by decide +kernel
set_option maxRecDepth 20000 in
theorem gd_X8_inverted : wsX8_inverted.all goodWord = true := by decide +kernel
set_option maxRecDepth 20000 in
theorem gd_X8_isAhead : wsX8_isAhead.all goodWord = true := by decide +kernel
set_option maxRecDepth 20000 in
theorem gd_X8_isChief : wsX8_isChief.all goodWord = true := by decide +kernel
set_option maxRecDepth 20000 in
theorem gd_X8_isDigit : wsX8_isDigit.all goodWord = true := by decide +kernel
set_option maxRecDepth 20000 in
theorem gd_X8_isFirst : wsX8_isFirst.all goodWord = true := by decide +kernel
set_option maxRecDepth 20000 in
theorem gd_X8_isLetter : wsX8_isLetter.all goodWord = true := by decide +kernel
set_option maxRecDepth 20000 in
theorem gd_X8_isLie : wsX8_isLie.all goodWord = true := by decide +kernel
set_option maxRecDepth 20000 in
theorem gd_X8_isNumber : wsX8_isNumber.all goodWord = true := by decide +kernel
set_option maxRecDepth 20000 in
theorem gd_X8_isPart : wsX8_isPart.all goodWord = true := by decide +kernel
set_option maxRecDepth 20000 in
theorem gd_X8_isSum : wsX8_isSum.all goodWord = true := by decide +kernel
set_option maxRecDepth 20000 in
theorem gd_X8_letterAt : wsX8_letterAt.all goodWord = true := by decide +kernel
set_option maxRecDepth 20000 in
theorem gd_X8_lie : wsX8_lie.all goodWord = true := by decide +kernel
set_option maxRecDepth 20000 in
theorem gd_X8_log : wsX8_log.all goodWord = true := by decide +kernel
set_option maxRecDepth 20000 in
theorem gd_X8_lyndon : wsX8_lyndon.all goodWord = true := by decide +kernel
set_option maxRecDepth 20000 in
theorem gd_X8_lyndons : wsX8_lyndons.all goodWord = true := by decide +kernel
set_option maxRecDepth 20000 in
theorem gd_X8_makes : wsX8_makes.all goodWord = true := by decide +kernel
set_option maxRecDepth 20000 in
theorem gd_X8_manyOf : wsX8_manyOf.all goodWord = true := by decide +kernel
set_option maxRecDepth 20000 in
theorem gd_X8_mod : wsX8_mod.all goodWord = true := by decide +kernel
set_option maxRecDepth 20000 in
theorem gd_X8_multiplies : wsX8_multiplies.all goodWord = true := by decide +kernel
set_option maxRecDepth 20000 in
theorem gd_X8_number : wsX8_number.all goodWord = true := by decide +kernel
set_option maxRecDepth 20000 in
theorem gd_X8_ones : wsX8_ones.all goodWord = true := by decide +kernel
set_option maxRecDepth 20000 in
theorem gd_X8_opensFrame : wsX8_opensFrame.all goodWord = true := by decide +kernel
set_option maxRecDepth 20000 in
theorem gd_X8_order : wsX8_order.all goodWord = true := by decide +kernel
set_option maxRecDepth 20000 in
theorem gd_X8_ordered : wsX8_ordered.all goodWord = true := by decide +kernel
set_option maxRecDepth 20000 in
theorem gd_X8_pair : wsX8_pair.all goodWord = true := by decide +kernel
set_option maxRecDepth 20000 in
theorem gd_X8_part : wsX8_part.all goodWord = true := by decide +kernel
set_option maxRecDepth 20000 in
theorem gd_X8_partOf : wsX8_partOf.all goodWord = true := by decide +kernel
set_option maxRecDepth 20000 in
theorem gd_X8_put : wsX8_put.all goodWord = true := by decide +kernel
set_option maxRecDepth 20000 in
theorem gd_X8_reads : wsX8_reads.all goodWord = true := by decide +kernel
set_option maxRecDepth 20000 in
theorem gd_X8_relate : wsX8_relate.all goodWord = true := by decide +kernel
set_option maxRecDepth 20000 in
theorem gd_X8_replace : wsX8_replace.all goodWord = true := by decide +kernel
set_option maxRecDepth 20000 in
theorem gd_X8_scheme : wsX8_scheme.all goodWord = true := by decide +kernel
set_option maxRecDepth 20000 in
theorem gd_X8_series : wsX8_series.all goodWord = true := by decide +kernel
set_option maxRecDepth 20000 in
theorem gd_X8_seriesOf : wsX8_seriesOf.all goodWord = true := by decide +kernel
set_option maxRecDepth 20000 in
theorem gd_X8_share : wsX8_share.all goodWord = true := by decide +kernel
set_option maxRecDepth 20000 in
theorem gd_X8_shares : wsX8_shares.all goodWord = true := by decide +kernel
set_option maxRecDepth 20000 in
theorem gd_X8_shuffle : wsX8_shuffle.all goodWord = true := by decide +kernel
set_option maxRecDepth 20000 in
theorem gd_X8_side : wsX8_side.all goodWord = true := by decide +kernel
set_option maxRecDepth 20000 in
theorem gd_X8_size : wsX8_size.all goodWord = true := by decide +kernel
set_option maxRecDepth 20000 in
theorem gd_X8_slot : wsX8_slot.all goodWord = true := by decide +kernel
set_option maxRecDepth 20000 in
theorem gd_X8_spansMore : wsX8_spansMore.all goodWord = true := by decide +kernel
set_option maxRecDepth 20000 in
theorem gd_X8_step : wsX8_step.all goodWord = true := by decide +kernel
set_option maxRecDepth 20000 in
theorem gd_X8_table : wsX8_table.all goodWord = true := by decide +kernel
set_option maxRecDepth 20000 in
theorem gd_X8_text : wsX8_text.all goodWord = true := by decide +kernel
set_option maxRecDepth 20000 in
theorem gd_X8_times : wsX8_times.all goodWord = true := by decide +kernel
set_option maxRecDepth 20000 in
theorem gd_X8_turn : wsX8_turn.all goodWord = true := by decide +kernel
set_option maxRecDepth 20000 in
theorem gd_X8_unstep : wsX8_unstep.all goodWord = true := by decide +kernel
set_option maxRecDepth 20000 in
theorem gd_X8_wordOf : wsX8_wordOf.all goodWord = true := by decide +kernel
set_option maxRecDepth 20000 in
theorem gd_X8_works : wsX8_works.all goodWord = true := by decide +kernel
