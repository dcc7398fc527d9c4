import java.util.ArrayList;
import java.util.List;

/** Promises 51 to 56: what would be, with nothing changed, and the checksum. */
public final class WhatIfTest {
    private static final String BUSY = "var o = object {a = fun(x) {return x;}}; def g(n) {for k in n {try {yield object {k = k};} "
            + "finally {print k;}}} var w = nil; for i in g(30) {try {w = weak i; if i.k == 3 {throw i;} print o.a(i.k); collect;} "
            + "catch e {print e; for k in 3 {w = weak e;}}} print 'end; nil.x;";

    public static void main(String[] args) {
        stepsToEnd();
        printedIn();
        thingsIn();
        runsToPrint();
        stateIfInterrupted();
        refusals();
        nothingChanges();
        asTold();
        digests();
        Bench.end("WhatIfTest");
    }

    private static void stepsToEnd() {
        EmberScript x = Bench.with("var a = 1; for i in 3 {} print 1;");
        Bench.is("stepsToEnd(200)", x.stepsToEnd(200), 6);
        Bench.is("stepsToEnd(6)", x.stepsToEnd(6), 6);
        Bench.is("stepsToEnd(5)", x.stepsToEnd(5), -1);
        Bench.is("stepsToEnd(1)", x.stepsToEnd(1), -1);
        x.run(4);
        Bench.is("stepsToEnd(2)", x.stepsToEnd(2), 2);
        x.run(200);
        Bench.is("stepsToEnd behind the end", x.stepsToEnd(1), 0);
        EmberScript y = Bench.with("object {}; object {} + 1; print 1;");
        Bench.is("stepsToEnd of a failure", y.stepsToEnd(200), 4);
        Bench.is("run counts more than it was told", y.stepsToEnd(3), 4);
        Bench.is("stepsToEnd(2)", y.stepsToEnd(2), -1);
        y.run(200);
        Bench.is("stepsToEnd behind a failure", y.stepsToEnd(200), 0);
        Bench.is("stepsToEnd without an end", Bench.with("while true {}").stepsToEnd(200), -1);
    }

    private static void printedIn() {
        EmberScript x = Bench.with("for i in 60 {print i;}");
        Bench.is("printedIn(1)", x.printedIn(1), 0);
        Bench.is("printedIn(2)", x.printedIn(2), 1);
        Bench.is("printedIn(4)", x.printedIn(4), 2);
        Bench.is("printedIn(200)", x.printedIn(200), 60);
        x.run(100);
        Bench.is("printed", x.printed(), 50);
        Bench.is("printedIn(200)", x.printedIn(200), 10);
        x.run(200);
        Bench.is("printedIn behind the end", x.printedIn(200), 0);
        EmberScript y = Bench.done("print 1; throw 1;");
        Bench.is("printedIn behind a failure", y.printedIn(200), 0);
    }

    private static void thingsIn() {
        EmberScript x = Bench.with("object {}; object {}; collect; object {};");
        Bench.is("thingsIn(1)", x.thingsIn(1), 1);
        Bench.is("thingsIn(3)", x.thingsIn(3), 2);
        Bench.is("thingsIn(5)", x.thingsIn(5), 0);
        Bench.is("thingsIn(200)", x.thingsIn(200), 1);
        x.run(4);
        Bench.is("things", x.things(), 2);
        Bench.is("thingsIn(1)", x.thingsIn(1), 0);
        Bench.is("things are there yet", x.things(), 2);
        x.run(200);
        Bench.is("thingsIn behind the end", x.thingsIn(200), 1);
        EmberScript y = Bench.done("object {}; object {}; throw 1;");
        Bench.is("thingsIn behind a failure", y.thingsIn(1), 2);
    }

    private static void runsToPrint() {
        EmberScript x = Bench.with("var a = 1; object {}; print 1; var b = 2;");
        Bench.is("runsToPrint", x.runsToPrint(), 3);
        x.run(2);
        Bench.is("runsToPrint", x.runsToPrint(), 1);
        x.run(1);
        Bench.is("runsToPrint without a print", x.runsToPrint(), -1);
        x.run(200);
        Bench.is("runsToPrint behind the end", x.runsToPrint(), -1);
        Bench.is("runsToPrint of a new object", new EmberScript().runsToPrint(), -1);
        Bench.is("runsToPrint of a failure ahead", Bench.with("throw 1; print 2;").runsToPrint(), -1);
        Bench.is("runsToPrint of a failure behind", Bench.with("print 2; throw 1;").runsToPrint(), 1);
        Bench.is("runsToPrint of the last statement", Bench.with("print 2;").runsToPrint(), 1);
        // 1 step of the for, and one for each round: 199 that print nothing are let pass, 200 are not.
        Bench.is("runsToPrint behind 199 steps", Bench.with("for i in 198 {} print 1;").runsToPrint(), 200);
        Bench.is("runsToPrint behind 200 steps", Bench.with("for i in 199 {} print 1;").runsToPrint(), -1);
        Bench.is("runsToPrint without end", Bench.with("while true {}").runsToPrint(), -1);
        // Runs are told, not steps.
        Bench.is("runs of two steps", Bench.with("object {}; object {}; object {}; print 1;").runsToPrint(), 4);
        EmberScript y = Bench.with("for i in 99 {object {};} print 1;");
        Bench.is("runs of more than 200 steps", y.runsToPrint(), -1);
        // 2 and 3 for each round, in 2 runs: 1 + 66 * 3 = 199, and with 1 more 200.
        Bench.is("199 steps in fewer runs", Bench.with("for i in 66 {object {};} print 1;").runsToPrint(), 134);
        Bench.is("200 steps in fewer runs", Bench.with("1; for i in 66 {object {};} print 1;").runsToPrint(), -1);
    }

    private static void stateIfInterrupted() {
        EmberScript x = Bench.with("try {print 1;} catch e {if e == 'zero {throw 2;}} print 3;");
        Bench.is("ahead of the try", x.stateIfInterrupted(0), 2);
        x.run(1);
        Bench.is("in the try", x.stateIfInterrupted(0), 0);
        Bench.is("in the try", x.stateIfInterrupted(1), 0);
        Bench.is("still in the try", x.place(), 5);
        EmberScript w = Bench.with("try {print 1;} catch e {print 2;}");
        w.run(1);
        Bench.is("no step is taken behind it", w.stateIfInterrupted(0), 0);
        EmberScript y = Bench.with("try {print 1;} catch e {}");
        y.run(1);
        Bench.is("to the end", y.stateIfInterrupted(7), 1);
        Bench.is("nothing was changed", y.state(), 0);
        y.run(1);
        Bench.is("behind the end", y.stateIfInterrupted(0), -1);
        Bench.is("behind a failure", Bench.done("throw 1;").stateIfInterrupted(0), -1);
    }

    private static void refusals() {
        for (EmberScript x : new EmberScript[] {new EmberScript(), Bench.with("print 1;"), Bench.done("print 1;"), Bench.done("throw 1;")}) {
            for (int steps : new int[] {0, -1, 201, Integer.MAX_VALUE, Integer.MIN_VALUE}) {
                Bench.refusesArgument("stepsToEnd " + steps, () -> x.stepsToEnd(steps));
                Bench.refusesArgument("printedIn " + steps, () -> x.printedIn(steps));
                Bench.refusesArgument("thingsIn " + steps, () -> x.thingsIn(steps));
            }
            Bench.refusesIndex("stateIfInterrupted(-1)", () -> x.stateIfInterrupted(-1));
            Bench.refusesIndex("stateIfInterrupted(8)", () -> x.stateIfInterrupted(8));
        }
    }

    /** At each place of a run, asking what would be leaves all as it is. */
    private static void nothingChanges() {
        int all = Bench.done(BUSY).steps();
        for (int ahead = 0; ahead <= all; ahead++) {
            EmberScript x = Bench.with(BUSY);
            EmberScript y = Bench.with(BUSY);
            while (y.state() == 0 && y.steps() < ahead) {
                x.run(1);
                y.run(1);
            }
            x.stepsToEnd(1 + ahead % 200);
            x.printedIn(200);
            x.thingsIn(200 - ahead % 200);
            x.runsToPrint();
            x.stateIfInterrupted(ahead % 8);
            x.garbage();
            x.share();
            for (int thing = 0; thing < 48; thing++) {
                if (x.isThere(thing)) {
                    x.retained(thing);
                    x.distance(thing);
                    x.isReached(thing);
                    x.reaches(thing, thing);
                }
            }
            Bench.is("digest behind questions", x.digest(), y.digest());
            if (x.state() == 0) {
                Bench.is("run", x.run(1 + ahead % 3), y.run(1 + ahead % 3));
                Bench.is("digest behind questions and a run", x.digest(), y.digest());
            }
        }
    }

    /** Scripts that go another way if anything of what they hold is lost. */
    private static final String[] HOLDERS = {
        "def make(n) {return fun(k) {return fun() {return n * 10 + k;};};} var a = make(3)(4); var b = make(5)(6);"
                + "for i in 9 {if a() + b() != 90 {throw 1;} print i;}",
        "var o = object {p = 1, m = fun(n) {var t = self.p; k(); if n > 0 {self.m(n - 1);} if self.p != t {throw 1;} print n;}};"
                + "var q = object like object like o {p = 2} {}; def k() {1; 2;} q.m(3); o.m(3); print q.p;",
        "var o = object {}; var w = weak weak o; def f(a, b) {1; if w()() != o {throw 1;} 2; return a - b;}"
                + "for i in 5 {print 100 - (f(7, i) * (3 - f(i, 1)));} o = nil; collect; 1; if w()() {throw 2;} print 1;",
        "def g(n) {var s = n; try {while true {try {yield s; 1; s = s + 1;} finally {2; if s > 8 {return;}}}} finally {print s;}}"
                + "def h(a) {for x in g(a) {yield x * 2; 3;}} var i = h(3); for x in h(5) {try {print x + next i;} catch e {4; print e;}}",
        "def f(n) {try {if n == 0 {throw object {v = 1};} 1; return f(n - 1) + 1;} catch e {2; if e.v != 1 {throw 3;} throw e;}"
                + "finally {3; object {}; collect; print n;}} try {f(8);} catch e {print e.v;} f(9);",
        "var a = nil; for i in 60 {a = object like object {p = a, q = weak fun() {return i;}} {r = i}; if i > 9 {if a.r != i {throw 1;}}"
                + "if i % 7 == 6 {a = nil; print i;}}",
    };

    /** At each place of a run, what is told comes true, whatever was asked before. */
    private static void asToldOf(String text) {
        int all = Bench.done(text).steps();
        for (int ahead = 0; ahead < all; ahead++) {
            EmberScript x = new EmberScript();
            if (ahead % 2 == 1) {
                Bench.load(x, HOLDERS[3]);
                x.run(30);
                x.stepsToEnd(30);
            }
            Bench.load(x, text);
            if (ahead > 0 && ahead < 200) {
                x.run(ahead);
            } else if (ahead > 0) {
                x.run(200);
            }
            if (x.state() == 0) {
                int steps = 1 + ahead * 37 % 200;
                int before = x.printed();
                int prints = x.printedIn(steps);
                int things = x.thingsIn(steps);
                int ends = x.stepsToEnd(steps);
                int counted = x.run(steps);
                Bench.is("printedIn " + text, prints, x.printed() - before);
                Bench.is("thingsIn " + text, things, x.things());
                Bench.is("stepsToEnd " + text, ends, x.state() == 0 ? -1 : counted);
            }
        }
    }

    /** What was told comes true. */
    private static void asTold() {
        for (String text : HOLDERS) {
            asToldOf(text);
        }
        for (int steps = 1; steps <= 200; steps += 7) {
            EmberScript x = Bench.with(BUSY);
            for (int n = 0; n < 40 && x.state() == 0; n++) {
                int ends = x.stepsToEnd(steps);
                int prints = x.printedIn(steps);
                int things = x.thingsIn(steps);
                int before = x.printed();
                int counted = x.run(steps);
                Bench.is("printedIn", prints, x.printed() - before);
                Bench.is("thingsIn", things, x.things());
                Bench.is("stepsToEnd", ends, x.state() == 0 ? -1 : counted);
            }
        }
        for (int word = 0; word < 8; word++) {
            EmberScript x = Bench.with(BUSY);
            for (int n = 0; n < 60 && x.state() == 0; n++) {
                x.run(3);
                if (x.state() == 0 && n % 5 == 4) {
                    int told = x.stateIfInterrupted(word);
                    Bench.is("stateIfInterrupted", told, x.interrupt(word));
                }
            }
        }
        EmberScript x = Bench.with(BUSY);
        for (int n = 0; n < 100 && x.state() == 0; n++) {
            int told = x.runsToPrint();
            int before = x.printed();
            int runs = 0;
            while (x.state() == 0 && x.printed() == before && runs < 300) {
                x.run(1);
                runs++;
            }
            Bench.is("runsToPrint", told, x.printed() == before ? -1 : runs);
        }
    }

    private static void digests() {
        EmberScript x = new EmberScript();
        same(x);
        x = Bench.with(BUSY);
        for (int n = 0; n < 200 && x.state() == 0; n++) {
            same(x);
            x.run(2);
        }
        same(x);
        x = Bench.done("var a = nil; for i in 50 {print i;} for i in 60 {a = object like object {p = a, q = weak object {}} {r = 'x, s = -1};}");
        Bench.is("state", x.state(), 2);
        same(x);
        x.setNumber(0, 3);
        same(x);
        x.collect();
        same(x);
    }

    private static void same(EmberScript x) {
        List<Integer> row = new ArrayList<>(List.of(x.state(), x.steps(), x.frames(), x.place(), x.functionNow(), x.loops()));
        row.addAll(List.of(x.isGuarded() ? 1 : 0, x.collections(), x.freed(), x.functions(), x.words(), x.printed(), x.things()));
        row.add(x.garbage());
        for (int n = 0; n < x.variables(); n++) {
            row.addAll(List.of(x.kindOf(n), x.numberOf(n)));
        }
        for (int n = 0; n < 40 && n < x.printed(); n++) {
            row.addAll(List.of(x.kindPrinted(n), x.numberPrinted(n)));
        }
        if (x.state() == 2) {
            row.addAll(List.of(x.kindThrown(), x.numberThrown()));
        }
        for (int n = 0; n < 48; n++) {
            if (x.isThere(n)) {
                addThing(row, x, n);
            }
        }
        long d = 2411;
        for (int v : row) {
            d = d * 31 + v;
        }
        Bench.is("digest", x.digest(), d);
    }

    private static void addThing(List<Integer> row, EmberScript x, int n) {
        int kind = x.kindOfThing(n);
        row.addAll(List.of(n, kind, x.isReached(n) ? 1 : 0, x.distance(n), x.retained(n)));
        if (kind == 4) {
            row.addAll(List.of(x.parentOf(n), x.slots(n)));
            for (int slot = 0; slot < x.slots(n); slot++) {
                row.addAll(List.of(x.wordIn(n, slot), x.kindIn(n, slot), x.numberIn(n, slot)));
            }
        }
        if (kind == 5 || kind == 6) {
            row.add(x.functionOf(n));
        }
        if (kind == 6) {
            row.add(x.stateOf(n));
        }
        if (kind == 7) {
            row.add(x.refersTo(n));
        }
    }
}
