theorem zz_main_ok : zz_main := sorry
