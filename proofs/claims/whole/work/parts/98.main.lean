theorem zz_main_ok : zz_main := fun n b L xs hb hL => L_run n b L xs hb hL
