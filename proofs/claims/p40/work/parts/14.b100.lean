/-! the string of the law's orders (written by wip/gen40/dec5.py) -/
