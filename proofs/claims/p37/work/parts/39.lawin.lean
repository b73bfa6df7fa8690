#eval (wsL_law0.map fun w => lw_tbl.findIdx (fun x => decide (x = w)))
