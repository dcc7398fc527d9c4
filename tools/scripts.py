"""Random scripts, most of them right, and calls for them."""

WORDS = ["p", "q", "m", "k", "lnk", "v"]
FIRST = "type zero slot args deep full done busy".split()


class Writer:
    """Writes one script. Names tell what their variables are meant to hold: n numbers, o objects, g generators,
    f functions, w weak references, x anything."""

    def __init__(self, rng, budget=None):
        self.rng = rng
        self.out = []
        self.budget = budget or rng.choice([60, 120, 200, 300, 400])
        self.risk = rng.choice([0, 0, 0.005, 0.02, 0.06])
        self.count = 0
        # One list of (name, inputs) of each function that is open; the script's is the first.
        self.scopes = [[]]
        self.makers = [[]]       # (name, inputs, is a generator's) of functions that can be called
        self.in_loop = [0]
        self.kind = ["script"]
        self.depth = 0
        self.functions = 0

    def put(self, *tokens):
        self.out += tokens

    def chance(self, p):
        return self.rng.random() < p

    def full(self):
        return len(self.out) > self.budget

    def names(self, letter):
        found = [n for scope in self.scopes for n in scope if n[0] == letter]
        if letter != "x" and self.chance(self.risk):
            found += [n for scope in self.scopes for n in scope]
        return found

    def fresh(self, letter):
        limit = 15 if len(self.scopes) == 1 else 9
        if len(self.scopes[-1]) >= limit:
            return None
        name = letter + str(self.count)
        self.count += 1
        return name

    # -- values

    def value(self, kind, depth=0):
        if self.chance(self.risk):
            kind = self.rng.choice("nogfwxt")
        if self.full() or depth > 3 or self.depth > 9:
            return self.leaf(kind)
        getattr(self, "value_" + kind)(depth + 1)

    def leaf(self, kind):
        names = self.names(kind)
        if self.chance(self.risk):
            self.put(self.rng.choice(["nil", "true", "0", "self", "'" + self.rng.choice(WORDS + FIRST)]))
        elif names and self.chance(0.8):
            self.put(self.rng.choice(names))
        elif kind == "n" or kind == "x" or self.depth > 9:
            self.put(str(self.rng.choice([0, 1, 2, 3, 5, 7, 100, 999999])))
        elif kind == "t":
            self.put(self.rng.choice(["true", "false", "nil", "true"]))
        elif kind == "o":
            self.put("object", "{", "p", "=", self.rng.choice("123"), ",", "q", "=", "4", "}")
        elif kind == "w":
            self.put("weak")
            self.leaf("o")
        else:
            makers = [m for scope in self.makers for m in scope if m[2] == (kind == "g")]
            if not makers:
                self.put("fun", "(", ")", "{", "}")
                self.functions += 1
                return
            name, inputs, _ = self.rng.choice(makers)
            self.put(name)
            if kind == "g":
                self.put("(")
                for i in range(inputs):
                    if i:
                        self.put(",")
                    self.put(self.rng.choice(self.names("n") or ["1"]))
                self.put(")")

    def value_x(self, depth):
        self.value(self.rng.choice("nnogfwt"), depth)

    def value_t(self, depth):
        r = self.rng.random()
        if r < 0.5:
            self.value("n", depth)
            self.put(self.rng.choice(["<", ">", "<=", ">=", "==", "!="]))
            self.value("n", depth)
        elif r < 0.65:
            self.value("x", depth)
            self.put(self.rng.choice(["==", "!="]))
            self.value("x", depth)
        elif r < 0.8:
            self.put("not")
            self.value_parens("t", depth)
        else:
            self.value_parens("t", depth)
            self.put(self.rng.choice(["and", "or"]))
            self.value_parens("x", depth)

    def value_parens(self, kind, depth):
        self.put("(")
        self.depth += 1
        self.value(kind, depth)
        self.depth -= 1
        self.put(")")

    def value_n(self, depth):
        r = self.rng.random()
        if r < 0.2:
            self.leaf("n")
        elif r < 0.45:
            self.value_parens("n", depth) if self.chance(0.3) else self.leaf("n")
            self.put(self.rng.choice("++-*/%"))
            self.value_parens("n", depth) if self.chance(0.5) else self.leaf("n")
        elif r < 0.6:
            self.call(False, depth)
        elif r < 0.72 and self.depth < 11:
            self.put("next")
            self.depth += 1
            names = self.names("g")
            if names and self.chance(0.8):
                self.put(self.rng.choice(names))
            else:
                self.value_parens("g", depth)
            self.depth -= 1
        elif r < 0.85:
            self.put(self.rng.choice(self.names("o") or ["self"]), ".", self.rng.choice(["p", "q", "p", "q", "v", "lnk"]))
        elif r < 0.92:
            self.put(self.rng.choice(self.names("o") or ["self"]), ".", "m", "(")
            if self.chance(0.5):
                self.value("n", depth)
            self.put(")")
        elif r < 0.95:
            self.put("-")
            self.leaf("n")
        else:
            self.put(self.rng.choice(["'" + self.rng.choice(WORDS + FIRST), "1"]))

    def call(self, generator, depth):
        makers = [m for scope in self.makers for m in scope if m[2] == generator]
        if not makers or self.chance(0.1):
            names = self.names("f")
            if names:
                self.put(self.rng.choice(names), "(")
                for i in range(self.rng.choice([0, 0, 1, 1, 2])):
                    if i:
                        self.put(",")
                    self.value("x", depth)
                self.put(")")
            else:
                self.leaf("n")
            return
        name, inputs, _ = self.rng.choice(makers)
        self.put(name, "(")
        self.depth += 1
        if self.chance(self.risk):
            inputs += 1
        for i in range(inputs):
            if i:
                self.put(",")
            self.value("nnnxog"[self.rng.randrange(6)], depth)
        self.depth -= 1
        self.put(")")

    def value_o(self, depth):
        r = self.rng.random()
        if r < 0.3 or self.depth > 8:
            self.leaf("o")
        elif r < 0.85:
            self.put("object")
            if self.chance(0.35):
                self.put("like")
                self.leaf("o")
            self.put("{")
            self.depth += 1
            words = self.rng.sample(WORDS, self.rng.choice([0, 1, 1, 2, 2, 3]))
            if self.chance(0.9):
                words = list(dict.fromkeys(["p", "q"] + words))
            for i, w in enumerate(words):
                if i:
                    self.put(",")
                self.put(w, "=")
                if w == "m":
                    self.value("f", depth)
                elif w == "lnk":
                    self.value(self.rng.choice("ogwxf"), depth)
                else:
                    self.value("n", depth)
            self.depth -= 1
            self.put("}")
        elif r < 0.93:
            self.put(self.rng.choice(self.names("w") or ["nil"]), "(", ")")
        else:
            self.put("self")

    def value_g(self, depth):
        if self.chance(0.6):
            self.call(True, depth)
        else:
            self.leaf("g")

    def value_w(self, depth):
        if self.chance(0.7):
            self.put("weak")
            self.depth += 1
            kind = self.rng.choice("oogf")
            names = self.names(kind)
            if names and self.chance(0.7):
                self.put(self.rng.choice(names))
            else:
                self.value_parens(kind, depth)
            self.depth -= 1
        else:
            self.leaf("w")

    def value_f(self, depth):
        if self.functions >= 18 or self.depth > 8 or self.chance(0.3):
            makers = [m[0] for scope in self.makers for m in scope]
            if makers:
                self.put(self.rng.choice(makers))
            else:
                self.leaf("f")
            return
        self.put("fun")
        self.function(self.rng.choice([0, 1, 1, 2]), self.chance(0.25))

    def function(self, inputs, generator):
        self.functions += 1
        names = []
        self.scopes.append([])
        self.makers.append([])
        self.in_loop.append(0)
        self.kind.append("generator" if generator else "function")
        self.put("(")
        for i in range(inputs):
            if i:
                self.put(",")
            name = self.fresh(self.rng.choice("nnnxog"))
            self.scopes[-1].append(name)
            names.append(name)
            self.put(name)
        self.put(")")
        self.block(self.rng.choice([0, 1, 1, 2, 3]), generator)
        self.scopes.pop()
        self.makers.pop()
        self.in_loop.pop()
        self.kind.pop()

    # -- statements

    def block(self, count, must_yield=False):
        self.put("{")
        self.depth += 1
        for _ in range(count):
            if not self.full():
                self.statement()
        if must_yield:
            if self.chance(0.4) and self.depth < 9:
                self.loop(True)
            elif self.chance(0.3) and self.depth < 9:
                self.guarded(True)
            else:
                self.put("yield")
                self.value("n")
                self.put(";")
                if self.chance(0.5):
                    self.statement()
        elif self.kind[-1] == "function" and self.chance(0.5) and self.depth < 11:
            self.put("return")
            self.value("n")
            self.put(";")
        self.depth -= 1
        self.put("}")

    def size(self):
        return self.rng.choice([0, 1, 1, 2, 2, 3])

    def statement(self):
        if self.depth > 8:
            return self.simple()
        r = self.rng.random()
        if r < 0.42:
            self.simple()
        elif r < 0.52:
            self.put("if")
            self.value("t")
            self.block(self.size())
            if self.chance(0.4):
                self.put("else")
                self.block(self.size())
        elif r < 0.66:
            self.loop()
        elif r < 0.83:
            self.guarded()
        elif r < 0.93 and self.functions < 18:
            self.definition()
        else:
            self.simple()

    def definition(self):
        name = self.fresh("f")
        if name is None:
            return self.simple()
        inputs = self.rng.choice([0, 1, 1, 2, 2, 3])
        generator = self.chance(0.45)
        self.scopes[-1].append(name)
        self.makers[-1].append((name, inputs, generator))
        self.put("def", name)
        self.function(inputs, generator)

    def loop(self, must_yield=False):
        r = self.rng.random()
        if r < 0.3:
            self.put("while")
            if self.chance(0.2):
                self.put("true")
            else:
                self.value("t")
        else:
            name = self.rng.choice(self.scopes[-1]) if self.scopes[-1] and self.chance(0.4) else self.fresh("n")
            if name is None or name[0] == "f":
                self.put("while")
                self.value("t")
            else:
                self.put("for", name, "in")
                if self.chance(0.5):
                    self.value("g")
                else:
                    self.put(str(self.rng.choice([0, 1, 2, 3, 5, 50])))
                if name not in self.scopes[-1]:
                    self.scopes[-1].append(name)
        self.in_loop[-1] += 1
        self.block(self.size(), must_yield)
        self.in_loop[-1] -= 1

    def guarded(self, must_yield=False):
        self.put("try")
        self.block(self.size() + 1, must_yield)
        r = self.rng.random()
        if r < 0.75:
            name = self.rng.choice(self.scopes[-1]) if self.scopes[-1] and self.chance(0.3) else self.fresh("x")
            if name is None:
                name = self.scopes[-1][-1]
            self.put("catch", name)
            if name not in self.scopes[-1]:
                self.scopes[-1].append(name)
            self.block(self.size())
        if r >= 0.55:
            self.put("finally")
            self.block(self.size())

    def simple(self):
        r = self.rng.random()
        if r < 0.2:
            letter = self.rng.choice("nnooggwxf")
            name = self.fresh(letter)
            if name is None:
                return self.printing()
            self.put("var", name, "=")
            self.value(letter)
            self.put(";")
            self.scopes[-1].append(name)
        elif r < 0.42:
            names = [n for scope in self.scopes for n in scope if n[0] != "f" or self.chance(0.2)]
            if not names:
                return self.printing()
            name = self.rng.choice(names)
            self.put(name, "=")
            self.value(name[0])
            self.put(";")
        elif r < 0.52:
            self.put(self.rng.choice(self.names("o") + ["self"]), ".", self.rng.choice(WORDS), "=")
            self.value(self.rng.choice("nnofgw"))
            self.put(";")
        elif r < 0.65:
            self.printing()
        elif r < 0.69:
            self.put("collect", ";")
        elif r < 0.75:
            self.put("throw")
            self.value(self.rng.choice("nxo"))
            self.put(";")
        elif r < 0.82 and self.in_loop[-1]:
            self.put(self.rng.choice(["break", "continue"]), ";")
        elif r < 0.87 and self.kind[-1] == "function":
            self.put("return")
            if self.chance(0.7):
                self.value("x")
            self.put(";")
        elif r < 0.93 and self.kind[-1] == "generator":
            if self.chance(0.85):
                self.put("yield")
                self.value("x")
                self.put(";")
            else:
                self.put("return", ";")
        else:
            self.value(self.rng.choice("nnxg"))
            self.put(";")

    def printing(self):
        self.put("print")
        self.value(self.rng.choice("nnnx"))
        self.put(";")

    def first(self, letter):
        name = self.fresh(letter)
        self.put("var", name, "=")
        self.leaf(letter)
        self.put(";")
        self.scopes[0].append(name)

    def script(self):
        whole = self.budget
        for letter in self.rng.sample("nno", self.rng.choice([1, 2, 3])):
            self.first(letter)
        for _ in range(self.rng.choice([1, 2, 3, 4])):
            self.budget = min(whole, len(self.out) + self.rng.choice([20, 40, 80]))
            if len(self.out) < whole / 2:
                self.definition()
        for letter in self.rng.sample("gggwwfo", self.rng.choice([1, 2, 3, 4])):
            self.budget = min(whole, len(self.out) + 20)
            self.first(letter)
        self.budget = whole
        r = self.rng.random()
        if r < 0.4:
            self.main()
        else:
            # All happens in a frame, or in two.
            for generator in ([False], [True], [False, True], [True, True])[self.rng.randrange(4)]:
                self.budget = min(whole, len(self.out) + self.rng.choice([60, 120]))
                self.main_function(generator)
                name, inputs, _ = self.makers[0][-1]
                call = name + " ( " + " , ".join("1" for _ in range(inputs)) + " )"
                if generator:
                    self.put(*("for n0 in " + call + " { print n0 ;").split())
                else:
                    self.put(*("while 1 < 2 { " + call + " ;").split())
                self.in_loop[-1] += 1
                self.depth += 1
                for _ in range(self.rng.choice([0, 0, 1, 2])):
                    if not self.full():
                        self.statement()
                self.depth -= 1
                self.in_loop[-1] -= 1
                self.put("}")
            self.budget = whole + 40
            self.main()
        return self.out

    def main_function(self, generator):
        name = self.fresh("f") or "flast"
        self.scopes[0].append(name)
        inputs = ["n%d" % (self.count + i) for i in range(self.rng.choice([0, 1, 2]))]
        self.count += len(inputs)
        self.makers[0].append((name, len(inputs), generator))
        self.put("def", name, "(")
        self.put(*" , ".join(inputs).split())
        self.put(")", "{")
        self.functions += 1
        self.scopes.append(list(inputs))
        self.makers.append([])
        self.in_loop.append(0)
        self.kind.append("generator" if generator else "function")
        self.depth += 1
        if generator:
            self.put("yield", "1", ";")
        self.main()
        self.depth -= 1
        self.put("}")
        self.scopes.pop()
        self.makers.pop()
        self.in_loop.pop()
        self.kind.pop()

    def main(self):
        budget = self.budget
        while not self.full():
            r = self.rng.random()
            if r < 0.06:
                self.statement()
                continue
            names = self.scopes[-1]
            closing = 1
            self.depth += 2
            if r < 0.6:
                closing = 2
                name = self.fresh("n")
                if name is None or self.chance(0.5):
                    self.put("while", "true", "{")
                else:
                    self.put("for", name, "in")
                    makers = [m for m in self.makers[0] if m[2]]
                    if makers and self.chance(0.6):
                        self.leaf("g")
                    else:
                        self.put(str(self.rng.choice([2, 5, 100])))
                    self.put("{")
                    names.append(name)
                self.in_loop[-1] += 1
            self.put("try", "{")
            self.budget = min(budget, len(self.out) + self.rng.choice([20, 40, 100, 200]))
            while not self.full():
                self.statement()
            self.budget = budget
            self.put("}")
            name = self.fresh("x") or names[-1]
            r = self.rng.random()
            if r < 0.85:
                self.put("catch", name, "{")
                if name not in names:
                    names.append(name)
                if self.chance(0.4):
                    self.put("print", name, ";")
                self.put("}")
            if r > 0.7:
                self.put("finally", "{")
                self.put(*self.rng.choice(["", "collect ;", "print 7 ;"]).split())
                self.put("}")
            if closing == 2:
                self.in_loop[-1] -= 1
                self.put("}")
            self.depth -= 2


def join(rng, tokens):
    """The text of tokens, with as few blanks as there can be, or more."""
    wide = rng.random() < 0.3
    text = ""
    for t in tokens:
        if text and (text[-1].isalnum() and t[0].isalnum() or text[-1] in "<>=!" and t[0] == "="):
            both_words = not (text[-1].isdigit() and t[0].isalpha() and rng.random() < 0.3
                              and is_number_end(text))
            text += " " if both_words else ""
        elif wide and rng.random() < 0.3:
            text += rng.choice([" ", "\n", "  "])
        text += t
    if rng.random() < 0.2:
        text = rng.choice([" ", "\n"]) + text + rng.choice([" ", "\n \n"])
    return text


def is_number_end(text):
    i = len(text)
    while i and text[i - 1].isalnum():
        i -= 1
    return text[i:].isdigit()


STATEMENTS = [
    "break ;", "continue ;", "return ;", "return 1 ;", "yield 1 ;", "var n0 = 1 ;", "var fresh = 1 ;", "unknown ;",
    "unknown = 1 ;", "1 = 2 ;", "( n0 ) = 2 ;", "self . p = 1 ;", "( self ) . p = 1 ;", "( self . p ) = 1 ;",
    "self . p ( ) = 1 ;", "- self . p = 1 ;", "n0 + self . p = 1 ;", "self . p + 1 = 1 ;", "n0 and self . p = 1 ;",
    "next self . p = 1 ;", "self . p . q = 1 ;", "object { } = 1 ;", "object { } . p = 1 ;",
    "object like self { } . p = 1 ;", "object like self . p { } = 1 ;", "self ( ) . p = 1 ;", "n0 == n0 = 1 ;",
    "'a = 1 ;", "fun ( ) { } = 1 ;", "self ( 1 , 2 , 3 , 4 , 5 , 6 ) ;", "self ( 1 , 2 , 3 , 4 , 5 , 6 , 7 ) ;",
    "self ( 1 , 2 , 3 , 4 , 5 , 6 , ( unknown ) ) ;", "self ( 1 , 2 , 3 , 4 , 5 , 6 , unknown ) ;",
    "def n0 ( ) { }", "def g ( a , a ) { }", "def g ( a , b ) { var a = 1 ; }", "def g ( a ) { for a in 3 { } }",
    "def g ( g ) { g ( g ) ; }", "def g ( ) { yield 1 ; return 1 ; }", "def g ( ) { return 1 ; yield 1 ; }",
    "def g ( ) { return ; yield 1 ; }", "def g ( ) { return fun ( ) { yield 1 ; } ; }",
    "def g ( ) { yield fun ( ) { return 1 ; } ; }", "while 1 { fun ( ) { break ; } ; }", "while 1 { if 1 { break ; } }",
    "while fun ( ) { break ; } { }", "while 1 { try { } finally { continue ; } }", "for n0 in 3 { var n0 = 1 ; }",
    "for z in 3 { } var z = 1 ;", "try { } catch z { } var z = 1 ;", "var y = 1 ; try { } catch y { }",
    "var y = 1 ; for y in 1 { }", "object { p = 1 , p = 2 } ;", "object { p = object { p = 1 } , q = 2 } ;",
    "object { p = object { q = 1 } , q = 2 , q = 3 } ;", "object { a = 1 , b = 2 , c = 3 , d = 4 , e = 5 , f = 6 , g = 7 , h = 8 } ;",
    "object { a = 1 , b = 2 , c = 3 , d = 4 , e = 5 , f = 6 , g = 7 , h = 8 , i = 9 } ;",
    "object { a = 1 , b = 2 , c = 3 , d = 4 , e = 5 , f = 6 , g = 7 , h = 8 , a = 9 } ;",
    "object { a = unknown , a = 1 } ;", "return unknown ;", "yield unknown ;", "def g ( ) { return later ; } var later = 1 ;",
    "fun ( ) { inner = 1 ; fun ( ) { var inner = 1 ; } ; } ;", "fun ( ) { fun ( ) { inner = 1 ; } ; var inner = 1 ; } ;",
    "else { }", "catch z { }", "if 1 { } else { }", "try { }", "try { } catch { }", "try { } catch z { } finally { }",
    "1 < 2 < 3 ;", "not 1 == not 2 ;", "1 == not 2 ;", "not not - - 1 ;", "a . if ;", "'if ;", "object like 1 { } ;",
    "object like object like object { } { } { } ;", "object like object like nil . a { } . b { c = 1 } ;", "object 1 ;",
]


def many(rng):
    """Statements that come near to a limit, or go beyond it."""
    kind = rng.randrange(9)
    if kind == 0:
        n = rng.choice([1, 5, 10, 18, 20, 24])
        return " ".join("'w%d ;" % i for i in range(n))
    if kind == 1:
        n = rng.choice([1, 5, 10, 19, 20, 21])
        return " ".join("fun ( ) { } ;" for i in range(n))
    if kind == 2:
        n = rng.choice([1, 5, 9, 12, 16, 17])
        return " ".join("var u%d = 1 ;" % i for i in range(n))
    if kind == 3:
        n = rng.choice([1, 5, 9, 10, 11, 12])
        return "def lots ( ) { " + " ".join("var u%d = 1 ;" % i for i in range(n)) + " }"
    if kind == 4:
        n = rng.choice([1, 9, 10, 11])
        return "def lots ( " + " , ".join("u%d" % i for i in range(n)) + " ) { for u0 in 1 { } for v0 in 1 { } }"
    n = rng.choice([2, 9, 10, 11, 12, 13, 14])
    if kind == 5:
        return "( " * n + "1 " + ") " * n + ";"
    if kind == 6:
        signs = [rng.choice(["not", "- ", "weak", "next"]) for _ in range(n)]
        signs.sort(key=lambda s: s != "not")
        return " ".join(signs).replace("  ", " ") + " 1 ;"
    if kind == 7:
        return "if 1 { " * n + "} " * n
    return "; ".join("1 + 1" for _ in range(rng.choice([20, 60, 110, 124, 125, 126]))) + " ;"


def spoilt(rng, tokens):
    """Tokens in which statements stand that may have errors other than error 1."""
    tokens = list(tokens)
    ends = [i + 1 for i, t in enumerate(tokens) if t in (";", "{", "}")] + [0]
    for _ in range(rng.choice([1, 1, 2, 3])):
        i = rng.choice(ends)
        text = many(rng) if rng.random() < 0.4 else rng.choice(STATEMENTS)
        tokens[i:i] = text.split()
    if rng.random() < 0.3:
        names = [i for i, t in enumerate(tokens) if t[0].isalpha() and t[-1].isdigit()]
        if names:
            tokens[rng.choice(names)] = tokens[rng.choice(names)] if rng.random() < 0.5 else "strange"
    return tokens


def damaged(rng, tokens):
    """Tokens of which some are changed."""
    tokens = list(tokens)
    pool = ("var def fun return yield if else while for in break continue try catch finally throw print collect object "
            "like nil true false self not and or weak next ( ) { } , ; . + - * / % < > = <= >= == != 1 12 1234567 a b "
            "x0 n0 f0 'a 'if ' ! # abcdefghijk abcdefghij 'abcdefghijk 'abcdefghij Z \t ' 999999").split(" ")
    for _ in range(rng.choice([1, 1, 1, 2, 3])):
        if not tokens:
            break
        i = rng.randrange(len(tokens))
        r = rng.random()
        if r < 0.3:
            del tokens[i]
        elif r < 0.55:
            tokens.insert(i, rng.choice(pool))
        elif r < 0.8:
            tokens[i] = rng.choice(pool)
        elif r < 0.9:
            tokens[i] = rng.choice(tokens)
        else:
            j = rng.randrange(len(tokens))
            tokens[i], tokens[j] = tokens[j], tokens[i]
    return tokens
