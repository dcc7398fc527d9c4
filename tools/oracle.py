"""A second EmberScript, written from ../shared/DOC.md alone and as unlike the Java class as can be:
it walks a tree, and each frame is a coroutine. It answers slowly, by doing everything over again
where the document asks what would be. tools/record.py checks the Java class against it."""

import re

FIRST_WORDS = "type zero slot args deep full done busy".split()
KEYWORDS = set(
    "var def fun return yield if else while for in break continue try catch finally throw print collect "
    "object like nil true false self not and or weak next".split())
NIL = (0, 0)
FALSE = (1, 0)
TRUE = (1, 1)
TYPE, ZERO, SLOT, ARGS, DEEP, FULL, DONE, BUSY = range(8)


def wrap(n):
    return (n + 2 ** 31) % 2 ** 32 - 2 ** 31


def wrap64(n):
    return (n + 2 ** 63) % 2 ** 64 - 2 ** 63


# ---- the text

class BadText(Exception):
    pass


class Token:
    def __init__(self, kind, text, at):
        self.kind, self.text, self.at = kind, text, at


PATTERN = re.compile(rb"(?P<word>[a-z][a-z0-9]*)|(?P<number>[0-9]+)|(?P<symbol>'[a-z][a-z0-9]*)"
                     rb"|(?P<sign><=|>=|==|!=|[(){},;.+\-*/%<>=])")


def tokenize(tape):
    tokens = []
    at = 0
    while True:
        while at < len(tape) and tape[at] in b" \n":
            at += 1
        if at == len(tape):
            tokens.append(Token("end", "", at))
            return tokens
        m = PATTERN.match(bytes(tape), at)
        if len(tokens) == 500 or not m:
            tokens.append(Token("bad", "", at))
            return tokens
        kind, text = m.lastgroup, m.group().decode()
        if kind == "word" and len(text) > 10 or kind == "symbol" and len(text) > 11 \
                or kind == "number" and len(text) > 6:
            tokens.append(Token("bad", "", at))
            return tokens
        if kind == "word":
            kind = "key" if text in KEYWORDS else "name"
        if kind == "symbol":
            text = text[1:]
        tokens.append(Token(kind, text, at))
        at = m.end()


class Function:
    """A function, or with number -1 the script."""

    def __init__(self, number, outer):
        self.number, self.outer = number, outer
        self.inputs = 0
        self.names = []
        self.is_generator = False
        self.body = None


class Parser:
    def __init__(self, tape):
        self.tokens = tokenize(tape)
        self.i = 0
        self.faults = []          # (token index, error)
        self.functions = []
        self.script = Function(-1, None)
        self.now_in = self.script
        self.loops = []           # one list of loops for each function that is open
        self.uses = []            # (token index, function, node)
        self.returns = []
        self.words = list(FIRST_WORDS)

    def fail(self):
        raise BadText(self.tokens[self.i].at)

    def text(self):
        t = self.tokens[self.i]
        return t.text if t.kind in ("key", "sign") else None

    def kind(self):
        return self.tokens[self.i].kind

    def need(self, text):
        if self.text() != text:
            self.fail()
        self.i += 1

    def need_deeper(self, text, depth):
        if self.text() != text or depth + 1 > 12:
            self.fail()
        self.i += 1

    def need_name(self):
        if self.kind() != "name":
            self.fail()
        self.i += 1
        return self.i - 1

    def fault(self, token, error):
        self.faults.append((token, error))

    def word(self, token):
        text = self.tokens[token].text
        if text not in self.words:
            self.words.append(text)
            if len(self.words) > 32:
                self.fault(token, 5)
        return self.words.index(text)

    def declare(self, token, again):
        f = self.now_in
        name = self.tokens[token].text
        if name in f.names:
            if not again:
                self.fault(token, 3)
        else:
            f.names.append(name)
            if len(f.names) > (16 if f is self.script else 10):
                self.fault(token, 5)
        return name

    def read(self):
        body = []
        self.loops.append(0)
        while self.kind() != "end":
            body.append(self.statement(0))
        self.script.body = body
        for token, f, node in self.uses:
            name = self.tokens[token].text
            g, up = f, 0
            while g is not None and name not in g.names:
                g, up = g.outer, up + 1
            if g is None:
                self.fault(token, 2)
            else:
                node[:] = ["name", up, g.names.index(name)]
        for token, f in self.returns:
            if f.is_generator:
                self.fault(token, 4)
        return min(self.faults) if self.faults else None

    def block(self, depth):
        self.need_deeper("{", depth)
        body = []
        while self.text() != "}":
            body.append(self.statement(depth + 1))
        self.i += 1
        return body

    def statement(self, depth):
        start = self.i
        at = self.tokens[start].at
        t = self.text()
        f = self.now_in
        if t == "var":
            self.i += 1
            name = self.declare(self.need_name(), False)
            self.need("=")
            v = self.value(depth)
            self.need(";")
            return ["set", at, f.names.index(name), v]
        if t == "def":
            g = self.new_function()
            self.i += 1
            name = self.declare(self.need_name(), False)
            self.function(g, depth)
            return ["set", at, f.names.index(name), ["fun", g]]
        if t == "return":
            self.i += 1
            if f is self.script:
                self.fault(start, 4)
            v = None
            if self.text() != ";":
                v = self.value(depth)
                self.returns.append((start, f))
            self.need(";")
            return ["return", at, v]
        if t == "yield":
            self.i += 1
            if f is self.script:
                self.fault(start, 4)
            else:
                f.is_generator = True
            v = self.value(depth)
            self.need(";")
            return ["yield", at, v]
        if t == "if":
            self.i += 1
            v = self.value(depth)
            a = self.block(depth)
            b = []
            if self.text() == "else":
                self.i += 1
                b = self.block(depth)
            return ["if", at, v, a, b]
        if t == "while":
            self.i += 1
            v = self.value(depth)
            self.loops[-1] += 1
            a = self.block(depth)
            self.loops[-1] -= 1
            return ["while", at, v, a]
        if t == "for":
            self.i += 1
            name = self.declare(self.need_name(), True)
            self.need("in")
            v = self.value(depth)
            self.loops[-1] += 1
            a = self.block(depth)
            self.loops[-1] -= 1
            return ["for", at, f.names.index(name), v, a]
        if t in ("break", "continue"):
            self.i += 1
            if self.loops[-1] == 0:
                self.fault(start, 4)
            self.need(";")
            return [t, at]
        if t in ("throw", "print"):
            self.i += 1
            v = self.value(depth)
            self.need(";")
            return [t, at, v]
        if t == "collect":
            self.i += 1
            self.need(";")
            return ["collect", at]
        if t == "try":
            self.i += 1
            a = self.block(depth)
            var, b, c = None, None, None
            if self.text() not in ("catch", "finally"):
                self.fail()
            if self.text() == "catch":
                self.i += 1
                var = f.names.index(self.declare(self.need_name(), True))
                b = self.block(depth)
            if self.text() == "finally":
                self.i += 1
                c = self.block(depth)
            return ["try", at, a, var, b, c]
        v = self.value(depth)
        if self.text() == "=":
            # In front of it has to be one name, or what ends with . and a name, without any operator.
            if v[0] == "name" and self.i == start + 1:
                kind = "let"
            elif v[0] == "get" and v[3] == start and self.tokens[self.i - 2].text == ".":
                kind = "put"
            else:
                kind = "wrong"
                self.fault(self.i, 4)
            self.i += 1
            x = self.value(depth)
            self.need(";")
            if kind == "put":
                return ["put", at, v[1], v[2], x]
            return ["let", at, v, x]
        self.need(";")
        return ["value", at, v]

    def new_function(self):
        g = Function(len(self.functions), self.now_in)
        self.functions.append(g)
        if len(self.functions) > 20:
            self.fault(self.i, 5)
        return g

    def function(self, g, depth):
        before, self.now_in = self.now_in, g
        self.loops.append(0)
        self.need_deeper("(", depth)
        if self.text() != ")":
            while True:
                self.declare(self.need_name(), False)
                g.inputs += 1
                if self.text() != ",":
                    break
                self.i += 1
        self.need(")")
        g.body = self.block(depth)
        self.loops.pop()
        self.now_in = before

    def value(self, depth):
        v = self.both(depth)
        while self.text() == "or":
            self.i += 1
            v = ["or", v, self.both(depth)]
        return v

    def both(self, depth):
        v = self.single(depth)
        while self.text() == "and":
            self.i += 1
            v = ["and", v, self.single(depth)]
        return v

    def single(self, depth):
        if self.text() == "not":
            self.need_deeper("not", depth)
            return ["not", self.single(depth + 1)]
        v = self.sum(depth)
        t = self.text()
        if t in ("<", ">", "<=", ">=", "==", "!="):
            self.i += 1
            v = ["op", t, v, self.sum(depth)]
        return v

    def sum(self, depth):
        v = self.product(depth)
        while self.text() in ("+", "-"):
            t = self.text()
            self.i += 1
            v = ["op", t, v, self.product(depth)]
        return v

    def product(self, depth):
        v = self.turned(depth)
        while self.text() in ("*", "/", "%"):
            t = self.text()
            self.i += 1
            v = ["op", t, v, self.turned(depth)]
        return v

    def turned(self, depth):
        t = self.text()
        if t in ("-", "weak", "next"):
            self.need_deeper(t, depth)
            return [t, self.turned(depth + 1)]
        return self.call(depth)

    def call(self, depth):
        start = self.i
        v = self.first(depth)
        while True:
            if self.text() == ".":
                self.i += 1
                v = ["get", v, self.word(self.need_name()), start]
            elif self.text() == "(":
                method = self.tokens[self.i - 2].text == "." and self.tokens[self.i - 2].kind == "sign" \
                    and self.tokens[self.i - 1].kind == "name"
                self.need_deeper("(", depth)
                values = []
                if self.text() != ")":
                    while True:
                        if len(values) == 6:
                            self.fault(self.i, 5)
                        values.append(self.value(depth + 1))
                        if self.text() != ",":
                            break
                        self.i += 1
                self.need(")")
                v = ["method", v[1], v[2], values] if method else ["call", v, values]
            else:
                return v

    def first(self, depth):
        t, kind, token = self.text(), self.kind(), self.i
        if kind == "number":
            self.i += 1
            return ["lit", (2, int(self.tokens[token].text))]
        if kind == "symbol":
            self.i += 1
            return ["lit", (3, self.word(token))]
        if kind == "name":
            self.i += 1
            node = ["name", None, None]
            self.uses.append((token, self.now_in, node))
            return node
        if t in ("nil", "true", "false"):
            self.i += 1
            return ["lit", {"nil": NIL, "true": TRUE, "false": FALSE}[t]]
        if t == "self":
            self.i += 1
            return ["self"]
        if t == "(":
            self.need_deeper("(", depth)
            v = self.value(depth + 1)
            self.need(")")
            return ["paren", v]
        if t == "fun":
            g = self.new_function()
            self.i += 1
            self.function(g, depth)
            return ["fun", g]
        if t == "object":
            self.i += 1
            parent = None
            if self.text() == "like":
                self.i += 1
                parent = self.call(depth)
            self.need_deeper("{", depth)
            slots = []
            if self.text() != "}":
                while True:
                    token = self.need_name()
                    word = self.word(token)
                    if word in [w for w, _ in slots]:
                        self.fault(token, 3)
                    if len(slots) >= 8:
                        self.fault(token, 5)
                    self.need("=")
                    slots.append((word, None))
                    slots[-1] = (word, self.value(depth + 1))
                    if self.text() != ",":
                        break
                    self.i += 1
            self.need("}")
            return ["object", parent, slots]
        self.fail()


# ---- the machine

class Signal(Exception):
    def held(self):
        return NIL


class Thrown(Signal):
    def __init__(self, value):
        self.value = value

    def held(self):
        return self.value


class Returned(Thrown):
    pass


class Broken(Signal):
    pass


class Continued(Signal):
    pass


class Scope:
    def __init__(self, size, outer):
        self.values = [NIL] * size
        self.outer = outer


class Thing:
    def __init__(self, kind):
        self.kind = kind
        self.function = None
        self.scope = None
        self.parent = None
        self.slots = []
        self.target = None
        self.state = 0
        self.frame = None
        self.body = None


class Frame:
    def __init__(self, function, scope, me, generator=None):
        self.function, self.scope, self.me, self.generator = function, scope, me, generator
        self.held = []       # what was worked out and is wanted yet
        self.asked = []      # the generators of its for loops
        self.pending = []    # what its finally blocks will throw or return
        self.loops = 0
        self.catches = 0

    def directly(self):
        s = self.scope
        while s is not None:
            yield from s.values
            s = s.outer
        yield self.me
        yield from self.held
        yield from self.asked
        yield from self.pending


class Refused(Exception):
    def __init__(self, name):
        self.name = name


INDEX, ARGUMENT, STATE = "IndexOutOfBoundsException", "IllegalArgumentException", "IllegalStateException"


class Oracle:
    def __init__(self):
        self.tape = bytearray()
        self.error_place = -1
        self.log = None
        self.source = bytearray()
        self.start(b"")

    # -- running

    def start(self, source):
        self.source = bytes(source)
        self.log = []
        p = Parser(source)
        assert p.read() is None
        self.program = p
        self.things_by_number = {}
        self.step_count = self.collection_count = self.freed_count = 0
        self.prints = []
        self.condition = 0
        self.thrown = NIL
        self.globals = Scope(len(p.script.names), None)
        self.main = Frame(p.script, self.globals, NIL)
        self.frame_list = []
        self.making = []
        self.standing = None
        self.body = self.run_script()
        self.resume(None)

    def run_script(self):
        yield from self.block(p_body(self.program.script), self.main)

    def resume(self, thrown):
        """Lets the script go on from where it stands to where it stands next."""
        try:
            if thrown is None:
                self.standing = next(self.body)
            else:
                self.standing = self.body.throw(thrown)
        except StopIteration:
            self.condition = 1
            self.standing = None
        except Thrown as e:
            assert type(e) is Thrown
            self.condition = 2
            self.thrown = e.value
            self.standing = None
            assert not self.frame_list
        if self.condition:
            assert self.main.held == [] or self.condition == 2
            self.main.held = []
            assert self.main.asked == [] and self.main.pending == [], (self.main.asked, self.main.pending)

    def newest(self):
        return self.frame_list[-1] if self.frame_list else self.main

    def throw(self, word):
        raise Thrown((3, word))

    def block(self, statements, frame):
        for s in statements:
            yield from self.statement(s, frame)

    def stand(self, at, frame):
        frame.held = []
        yield at
        self.step_count += 1

    def statement(self, s, frame):
        yield from self.stand(s[1], frame)
        t = s[0]
        if t == "set":
            frame.scope.values[s[2]] = yield from self.value(s[3], frame)
        elif t == "let":
            v = yield from self.value(s[3], frame)
            scope = frame.scope
            for _ in range(s[2][1]):
                scope = scope.outer
            scope.values[s[2][2]] = v
        elif t == "put":
            yield from self.put(s, frame)
        elif t == "value":
            yield from self.value(s[2], frame)
        elif t == "return":
            v = NIL
            if s[2] is not None:
                v = yield from self.value(s[2], frame)
            raise Returned(v)
        elif t == "yield":
            v = yield from self.value(s[2], frame)
            yield ("yielded", v)
        elif t == "if":
            v = yield from self.value(s[2], frame)
            yield from self.block(s[3] if true(v) else s[4], frame)
        elif t == "while":
            yield from self.while_loop(s, frame)
        elif t == "for":
            yield from self.for_loop(s, frame)
        elif t == "break":
            raise Broken()
        elif t == "continue":
            raise Continued()
        elif t == "throw":
            raise Thrown((yield from self.value(s[2], frame)))
        elif t == "print":
            self.prints.append((yield from self.value(s[2], frame)))
        elif t == "collect":
            self.do_collect()
        elif t == "try":
            yield from self.try_statement(s, frame)
        else:
            raise AssertionError(t)

    def put(self, s, frame):
        v = yield from self.value(s[2], frame)
        frame.held.append(v)
        x = yield from self.value(s[4], frame)
        frame.held.pop()
        if v[0] != 4:
            self.throw(TYPE)
        slots = self.things_by_number[v[1]].slots
        for pair in slots:
            if pair[0] == s[3]:
                pair[1] = x
                return
        if len(slots) == 8:
            self.throw(FULL)
        slots.append([s[3], x])

    def round(self, s, body, frame):
        """One round, and the step behind it; tells whether the loop was broken."""
        frame.loops += 1
        try:
            try:
                yield from self.block(body, frame)
            except Continued:
                pass
            except Broken:
                return True
            yield from self.stand(s[1], frame)
        finally:
            frame.loops -= 1
        return False

    def while_loop(self, s, frame):
        while true((yield from self.value(s[2], frame))):
            if (yield from self.round(s, s[3], frame)):
                return

    def for_loop(self, s, frame):
        v = yield from self.value(s[3], frame)
        if v[0] == 2:
            for n in range(v[1]):
                frame.scope.values[s[2]] = (2, n)
                if (yield from self.round(s, s[4], frame)):
                    return
        elif v[0] == 6:
            frame.asked.append(v)
            try:
                while True:
                    answer = yield from self.ask(v)
                    if answer is None:
                        return
                    frame.scope.values[s[2]] = answer
                    if (yield from self.round(s, s[4], frame)):
                        return
            finally:
                frame.asked.pop()
        else:
            self.throw(TYPE)

    def try_statement(self, s, frame):
        _, _, body, var, handler, last = s
        ended = None
        try:
            frame.catches += handler is not None
            try:
                yield from self.block(body, frame)
            finally:
                frame.catches -= handler is not None
        except Signal as e:
            ended = e
        if handler is not None and type(ended) is Thrown:
            frame.scope.values[var] = ended.value
            frame.held = []
            ended = None
            try:
                yield from self.block(handler, frame)
            except Signal as e:
                ended = e
        if last is not None:
            frame.held = []
            frame.pending.append(ended.held() if ended else NIL)
            try:
                yield from self.block(last, frame)
            finally:
                frame.pending.pop()
        if ended is not None:
            raise ended

    def ask(self, v):
        """The next value of a generator; None if it has ended, or does."""
        g = self.things_by_number[v[1]]
        if g.state == 3:
            return None
        if g.state == 2:
            self.throw(BUSY)
        if len(self.frame_list) == 10:
            self.throw(DEEP)
        g.state = 2
        self.frame_list.append(g.frame)
        self.step_count += 1
        thrown = None
        while True:
            try:
                if thrown is None:
                    event = next(g.body)
                else:
                    event = g.body.throw(thrown)
            except (StopIteration, Returned):
                self.end_generator(g)
                return None
            except Thrown:
                self.end_generator(g)
                raise
            except RuntimeError as e:
                if isinstance(e.__cause__, StopIteration):
                    raise AssertionError("leak")
                raise
            thrown = None
            if isinstance(event, tuple):
                g.state = 1
                g.frame.held = []
                assert self.frame_list.pop() is g.frame
                return event[1]
            try:
                yield event
            except Thrown as e:
                thrown = e

    def end_generator(self, g):
        g.state = 3
        assert self.frame_list.pop() is g.frame
        g.frame = g.body = None

    def value(self, node, frame):
        t = node[0]
        if t == "lit":
            return node[1]
        if t == "self":
            return frame.me
        if t == "paren":
            return (yield from self.value(node[1], frame))
        if t == "name":
            scope = frame.scope
            for _ in range(node[1]):
                scope = scope.outer
            return scope.values[node[2]]
        if t == "or":
            v = yield from self.value(node[1], frame)
            return v if true(v) else (yield from self.value(node[2], frame))
        if t == "and":
            v = yield from self.value(node[1], frame)
            return (yield from self.value(node[2], frame)) if true(v) else v
        if t == "not":
            v = yield from self.value(node[1], frame)
            return FALSE if true(v) else TRUE
        if t == "-":
            v = yield from self.value(node[1], frame)
            if v[0] != 2:
                self.throw(TYPE)
            return (2, wrap(-v[1]))
        if t == "op":
            a = yield from self.value(node[2], frame)
            frame.held.append(a)
            b = yield from self.value(node[3], frame)
            frame.held.pop()
            return self.operate(node[1], a, b)
        if t == "next":
            v = yield from self.value(node[1], frame)
            if v[0] != 6:
                self.throw(TYPE)
            answer = yield from self.ask(v)
            if answer is None:
                self.throw(DONE)
            return answer
        if t == "weak":
            v = yield from self.value(node[1], frame)
            if v[0] < 4:
                self.throw(TYPE)
            w = Thing(7)
            w.target = v[1]
            return self.make(w, [v])
        if t == "fun":
            f = Thing(5)
            f.function = node[1]
            f.scope = frame.scope
            return self.make(f, list(self.directly(f)))
        if t == "get":
            v = yield from self.value(node[1], frame)
            return self.read_slot(v, node[2])
        if t == "object":
            return (yield from self.object(node, frame))
        if t == "call":
            f = yield from self.value(node[1], frame)
            return (yield from self.call(f, NIL, node[2], frame))
        if t == "method":
            v = yield from self.value(node[1], frame)
            f = self.read_slot(v, node[2])
            return (yield from self.call(f, v, node[3], frame))
        raise AssertionError(t)

    def operate(self, t, a, b):
        if t == "==":
            return TRUE if a == b else FALSE
        if t == "!=":
            return TRUE if a != b else FALSE
        if a[0] != 2 or b[0] != 2:
            self.throw(TYPE)
        x, y = a[1], b[1]
        if t in ("<", ">", "<=", ">="):
            return TRUE if {"<": x < y, ">": x > y, "<=": x <= y, ">=": x >= y}[t] else FALSE
        if t in "/%":
            if y == 0:
                self.throw(ZERO)
            q = abs(x) // abs(y)
            q = q if (x < 0) == (y < 0) else -q
            return (2, wrap(q if t == "/" else x - q * y))
        return (2, wrap({"+": x + y, "-": x - y, "*": x * y}[t]))

    def find_slot(self, number, word):
        while number is not None:
            o = self.things_by_number[number]
            for pair in o.slots:
                if pair[0] == word:
                    return number, pair[1]
            number = o.parent
        return None

    def read_slot(self, v, word):
        if v[0] != 4:
            self.throw(TYPE)
        found = self.find_slot(v[1], word)
        if found is None:
            self.throw(SLOT)
        return found[1]

    def object(self, node, frame):
        o = Thing(4)
        mark = len(frame.held)
        if node[1] is not None:
            v = yield from self.value(node[1], frame)
            if v[0] != 4:
                self.throw(TYPE)
            o.parent = v[1]
            frame.held.append(v)
        for word, value in node[2]:
            x = yield from self.value(value, frame)
            frame.held.append(x)
            o.slots.append([word, x])
        del frame.held[mark:]
        return self.make(o, list(self.directly(o)))

    def call(self, f, me, values, frame):
        mark = len(frame.held)
        frame.held += [f, me]
        got = []
        for v in values:
            x = yield from self.value(v, frame)
            frame.held.append(x)
            got.append(x)
        del frame.held[mark:]
        if f[0] == 7:
            if got:
                self.throw(ARGS)
            target = self.things_by_number[f[1]].target
            return NIL if target is None else (self.things_by_number[target].kind, target)
        if f[0] != 5:
            self.throw(TYPE)
        thing = self.things_by_number[f[1]]
        function = thing.function
        if len(got) != function.inputs:
            self.throw(ARGS)
        scope = Scope(len(function.names), thing.scope)
        scope.values[:len(got)] = got
        if function.is_generator:
            g = Thing(6)
            g.function = function
            g.frame = Frame(function, scope, me, g)
            g.body = self.block(p_body(function), g.frame)
            return self.make(g, list(self.directly(g)))
        if len(self.frame_list) == 10:
            self.throw(DEEP)
        inner = Frame(function, scope, me)
        self.frame_list.append(inner)
        self.step_count += 1
        try:
            yield from self.block(p_body(function), inner)
            return NIL
        except Returned as e:
            return e.value
        finally:
            if self.frame_list and self.frame_list[-1] is inner:
                self.frame_list.pop()

    # -- things

    def make(self, thing, held):
        if len(self.things_by_number) == 48:
            self.do_collect(held)
            if len(self.things_by_number) == 48:
                self.throw(FULL)
        n = min(set(range(48)) - set(self.things_by_number))
        self.things_by_number[n] = thing
        self.step_count += 1
        return (thing.kind, n)

    def directly(self, thing):
        """The values that a thing directly reaches."""
        if thing.kind == 4:
            if thing.parent is not None:
                yield (4, thing.parent)
            for _, v in thing.slots:
                yield v
        elif thing.kind == 5:
            s = thing.scope
            while s is not None:
                yield from s.values
                s = s.outer
        elif thing.kind == 6 and thing.state != 3:
            yield from thing.frame.directly()

    def roots(self):
        yield from self.globals.values
        if self.condition == 2:
            yield self.thrown
        yield from self.main.directly()
        for f in self.frame_list:
            yield from f.directly()
            if f.generator is not None:
                for n, t in self.things_by_number.items():
                    if t is f.generator:
                        yield (6, n)

    def distances(self, roots, without=None):
        found = {}
        wave = [v[1] for v in roots if v[0] >= 4 and v[1] != without]
        d = 1
        while wave:
            following = []
            for n in wave:
                if n not in found:
                    found[n] = d
                    following += [v[1] for v in self.directly(self.things_by_number[n])
                                  if v[0] >= 4 and v[1] != without]
            wave, d = following, d + 1
        return found

    def do_collect(self, held=()):
        kept = self.distances(list(self.roots()) + list(held))
        gone = [n for n in self.things_by_number if n not in kept]
        for n in gone:
            del self.things_by_number[n]
        for t in self.things_by_number.values():
            if t.kind == 7 and t.target in gone:
                t.target = None
        self.collection_count += 1
        self.freed_count += len(gone)
        return len(gone)

    # -- the calls

    def feed(self, *numbers):
        if len(self.tape) + 20 > 2000:
            raise Refused(STATE)
        for n in numbers:
            self.tape += (n % 2 ** 32).to_bytes(4, "big")
        return len(self.tape)

    def trim(self, n):
        if not 0 <= n <= len(self.tape):
            raise Refused(ARGUMENT)
        del self.tape[n:]
        return n

    def load(self):
        source, self.tape = bytes(self.tape), bytearray()
        try:
            p = Parser(source)
            fault = p.read()
        except BadText as e:
            self.error_place = e.args[0]
            return 1
        if fault is not None:
            self.error_place = p.tokens[fault[0]].at
            return fault[1]
        self.error_place = -1
        self.start(source)
        return 0

    def errorAt(self):
        return self.error_place

    def need(self, holds, name):
        if not holds:
            raise Refused(name)

    def run(self, steps):
        self.need(1 <= steps <= 200, ARGUMENT)
        self.need(self.condition == 0, STATE)
        self.log.append(("run", steps))
        before = self.step_count
        while self.condition == 0 and self.step_count - before < steps:
            self.resume(None)
        return self.step_count - before

    def interrupt(self, word):
        self.need(0 <= word < len(self.program.words), INDEX)
        self.need(self.condition == 0, STATE)
        self.log.append(("interrupt", word))
        self.resume(Thrown((3, word)))
        return self.condition

    def setNumber(self, variable, number):
        self.need(0 <= variable < len(self.globals.values), INDEX)
        self.log.append(("setNumber", variable, number))
        before = self.globals.values[variable][0]
        self.globals.values[variable] = (2, number)
        return before

    def collect(self):
        self.log.append(("collect",))
        return self.do_collect()

    def state(self):
        return self.condition

    def steps(self):
        return self.step_count

    def frames(self):
        return len(self.frame_list)

    def place(self):
        return self.standing if self.condition == 0 else -1

    def functionNow(self):
        return self.frame_list[-1].function.number if self.frame_list else -1

    def loops(self):
        return self.newest().loops if self.condition == 0 else 0

    def isGuarded(self):
        return any(f.catches for f in [self.main] + self.frame_list)

    def collections(self):
        return self.collection_count

    def freed(self):
        return self.freed_count

    def functions(self):
        return len(self.program.functions)

    def function(self, n):
        self.need(0 <= n < len(self.program.functions), INDEX)
        return self.program.functions[n]

    def inputsOf(self, n):
        return self.function(n).inputs

    def variablesOf(self, n):
        return len(self.function(n).names)

    def isGenerator(self, n):
        return self.function(n).is_generator

    def variables(self):
        return len(self.globals.values)

    def kindOf(self, n):
        self.need(0 <= n < len(self.globals.values), INDEX)
        return self.globals.values[n][0]

    def numberOf(self, n):
        self.need(0 <= n < len(self.globals.values), INDEX)
        return self.globals.values[n][1]

    def words(self):
        return len(self.program.words)

    def printed(self):
        return len(self.prints)

    def kindPrinted(self, back):
        self.need(0 <= back <= 39 and back < len(self.prints), INDEX)
        return self.prints[-1 - back][0]

    def numberPrinted(self, back):
        self.need(0 <= back <= 39 and back < len(self.prints), INDEX)
        return self.prints[-1 - back][1]

    def kindThrown(self):
        self.need(self.condition == 2, STATE)
        return self.thrown[0]

    def numberThrown(self):
        self.need(self.condition == 2, STATE)
        return self.thrown[1]

    def things(self):
        return len(self.things_by_number)

    def isThere(self, n):
        self.need(0 <= n <= 47, INDEX)
        return n in self.things_by_number

    def thing(self, n, *kinds):
        self.need(n in self.things_by_number, INDEX)
        t = self.things_by_number[n]
        self.need(not kinds or t.kind in kinds, ARGUMENT)
        return t

    def kindOfThing(self, n):
        return self.thing(n).kind

    def functionOf(self, n):
        return self.thing(n, 5, 6).function.number

    def slots(self, n):
        return len(self.thing(n, 4).slots)

    def slot(self, n, slot):
        slots = self.thing(n, 4).slots
        self.need(0 <= slot < len(slots), INDEX)
        return slots[slot]

    def wordIn(self, n, slot):
        return self.slot(n, slot)[0]

    def kindIn(self, n, slot):
        return self.slot(n, slot)[1][0]

    def numberIn(self, n, slot):
        return self.slot(n, slot)[1][1]

    def parentOf(self, n):
        p = self.thing(n, 4).parent
        return -1 if p is None else p

    def foundIn(self, n, word):
        self.thing(n)
        self.need(0 <= word < len(self.program.words), INDEX)
        self.thing(n, 4)
        found = self.find_slot(n, word)
        return -1 if found is None else found[0]

    def isLike(self, n, other):
        self.thing(n)
        self.thing(other)
        self.thing(n, 4)
        self.thing(other, 4)
        p = self.things_by_number[n].parent
        while p is not None and p != other:
            p = self.things_by_number[p].parent
        return p == other

    def stateOf(self, n):
        return self.thing(n, 6).state

    def refersTo(self, n):
        t = self.thing(n, 7).target
        return -1 if t is None else t

    def isReached(self, n):
        self.thing(n)
        return n in self.distances(self.roots())

    def garbage(self):
        return len(self.things_by_number) - len(self.distances(self.roots()))

    def retained(self, n):
        self.thing(n)
        all_of_them = self.distances(self.roots())
        if n not in all_of_them:
            return 0
        return len(all_of_them) - len(self.distances(self.roots(), n))

    def distance(self, n):
        self.thing(n)
        return self.distances(self.roots()).get(n, -1)

    def reaches(self, n, other):
        self.thing(n)
        self.thing(other)
        return other in self.distances(self.directly(self.things_by_number[n]))

    def share(self):
        if not self.things_by_number:
            return 0.0
        return len(self.distances(self.roots())) / len(self.things_by_number)

    def again(self):
        """Another one that has come to where this one is."""
        o = Oracle()
        o.start(self.source)
        for call in list(self.log):
            getattr(o, call[0])(*call[1:])
        return o

    def stepsToEnd(self, most):
        self.need(1 <= most <= 200, ARGUMENT)
        if self.condition:
            return 0
        o = self.again()
        n = o.run(most)
        return n if o.condition else -1

    def printedIn(self, steps):
        self.need(1 <= steps <= 200, ARGUMENT)
        if self.condition:
            return 0
        o = self.again()
        o.run(steps)
        return len(o.prints) - len(self.prints)

    def thingsIn(self, steps):
        self.need(1 <= steps <= 200, ARGUMENT)
        if self.condition:
            return len(self.things_by_number)
        o = self.again()
        o.run(steps)
        return len(o.things_by_number)

    def runsToPrint(self):
        if self.condition:
            return -1
        o = self.again()
        runs = silent = 0
        while not o.condition and silent < 200:
            silent += o.run(1)
            runs += 1
            if len(o.prints) > len(self.prints):
                return runs
        return -1

    def stateIfInterrupted(self, word):
        self.need(0 <= word < len(self.program.words), INDEX)
        if self.condition:
            return -1
        return self.again().interrupt(word)

    def digest(self):
        d = 2411
        row = [self.state(), self.steps(), self.frames(), self.place(), self.functionNow(), self.loops(),
               int(self.isGuarded()), self.collections(), self.freed(), self.functions(), self.words(),
               self.printed(), self.things(), self.garbage()]
        for v in self.globals.values:
            row += v
        for v in self.prints[::-1][:40]:
            row += v
        if self.condition == 2:
            row += self.thrown
        for n in sorted(self.things_by_number):
            kind = self.kindOfThing(n)
            row += [n, kind, int(self.isReached(n)), self.distance(n), self.retained(n)]
            if kind == 4:
                row += [self.parentOf(n), self.slots(n)]
                for word, v in self.things_by_number[n].slots:
                    row += [word, *v]
            if kind in (5, 6):
                row.append(self.functionOf(n))
            if kind == 6:
                row.append(self.stateOf(n))
            if kind == 7:
                row.append(self.refersTo(n))
        for v in row:
            d = wrap64(d * 31 + v)
        return d


def p_body(function):
    return function.body


def true(v):
    return v not in (NIL, FALSE)
