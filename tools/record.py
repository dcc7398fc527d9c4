"""Writes runs of random calls with the oracle's answers: record.py SEED RUNS CALLS > FILE.
Each line is a call and its answer; '!' and a name is an exception. src/test/java/RecordedRuns.java plays them."""

import random
import sys

import oracle
import scripts


class Recorder:
    def __init__(self, seed, calls, out):
        self.rng = random.Random(seed)
        self.o = oracle.Oracle()
        self.left = calls
        self.out = out
        out.write("new %d\n" % seed)

    def call(self, name, *args):
        self.left -= 1
        try:
            answer = getattr(self.o, name)(*args)
            if isinstance(answer, bool):
                answer = int(answer)
        except oracle.Refused as e:
            answer = "!" + e.name
        self.out.write(" ".join([name] + [str(a) for a in args]) + " -> " + repr(answer).strip("'") + "\n")
        return answer

    def feed(self, text):
        data = text.encode("latin-1")
        padded = data + b" " * (-len(data) % 20)
        for i in range(0, len(padded), 20):
            numbers = [int.from_bytes(padded[i + j:i + j + 4], "big", signed=True) for j in range(0, 20, 4)]
            self.call("feed", *numbers)
        if len(data) != len(padded):
            self.call("trim", len(data))

    def text(self, damage):
        for _ in range(100):
            tokens = scripts.Writer(self.rng, self.rng.choice([10, 30, 60]) if damage else None).script()
            if damage and self.rng.random() < 0.85:
                tokens = scripts.spoilt(self.rng, tokens)
            if damage and self.rng.random() < 0.3:
                tokens = scripts.damaged(self.rng, tokens)
            text = scripts.join(self.rng, tokens)
            if len(text) <= 1980:
                return text
        return ""

    def thing(self):
        if self.rng.random() < 0.9 and self.o.things_by_number:
            return self.rng.choice(sorted(self.o.things_by_number))
        return self.rng.choice([-1, 48, 0, 1, 5, 47, 100])

    def word(self):
        r = self.rng.random()
        return self.rng.randrange(len(self.o.program.words)) if r < 0.95 else self.rng.choice([-1, len(self.o.program.words)])

    def any_call(self):
        rng = self.rng
        r = rng.random()
        if r < 0.30:
            self.call("run", rng.choice([1, 1, 1, 2, 3, 5, 8, 20, 50, 200, rng.randrange(0, 203)]))
        elif r < 0.34:
            self.call("interrupt", self.word())
        elif r < 0.36:
            n = self.o.variables()
            self.call("setNumber", rng.randrange(-1, n + 1), rng.choice([0, 1, 5, -7, 2 ** 31 - 1, -2 ** 31]))
        elif r < 0.39:
            self.call("collect")
        elif r < 0.62:
            self.call(rng.choice("state steps frames place functionNow loops isGuarded collections freed functions "
                                 "variables words printed things garbage share kindThrown numberThrown errorAt "
                                 "runsToPrint digest digest digest".split()))
        elif r < 0.68:
            self.call(rng.choice(["inputsOf", "variablesOf", "isGenerator"]), rng.randrange(-1, self.o.functions() + 1))
        elif r < 0.72:
            self.call(rng.choice(["kindOf", "numberOf"]), rng.randrange(-1, self.o.variables() + 1))
        elif r < 0.75:
            self.call(rng.choice(["kindPrinted", "numberPrinted"]), rng.choice([-1, 0, 1, 2, 5, 39, 40]))
        elif r < 0.86:
            self.call(rng.choice(["isThere", "kindOfThing", "functionOf", "slots", "parentOf", "stateOf", "refersTo",
                                  "isReached", "retained", "distance"]), self.thing())
        elif r < 0.90:
            self.call(rng.choice(["wordIn", "kindIn", "numberIn"]), self.thing(), rng.choice([-1, 0, 0, 1, 2, 8]))
        elif r < 0.92:
            self.call("foundIn", self.thing(), self.word())
        elif r < 0.95:
            self.call(rng.choice(["isLike", "reaches", "reaches"]), self.thing(), self.thing())
        elif r < 0.98:
            self.call(rng.choice(["stepsToEnd", "printedIn", "thingsIn"]), rng.choice([0, 1, 3, 10, 50, 200, 201]))
        else:
            self.call("stateIfInterrupted", self.word())

    def run(self, damage):
        rng = self.rng
        while self.left > 0:
            self.feed(self.text(damage and rng.random() < 0.85))
            error = self.call("load")
            self.call("errorAt")
            if error:
                if rng.random() < 0.2:
                    self.call("digest")
                continue
            for _ in range(rng.choice([10, 30, 60])):
                self.any_call()
                if self.o.condition and rng.random() < 0.15:
                    break
            self.call("digest")


def main():
    seed, runs, calls = (int(a) for a in sys.argv[1:4])
    for i in range(runs):
        Recorder(seed + i, calls, sys.stdout).run((seed + i) % 4 == 0)


if __name__ == "__main__":
    main()
