/** Promises 32 to 44: things, their numbers, and what each of them holds. */
public final class ThingsTest {
    public static void main(String[] args) {
        numbers();
        refusals();
        objects();
        parents();
        functions();
        generators();
        weakReferences();
        fullHouse();
        Bench.end("ThingsTest");
    }

    private static void numbers() {
        EmberScript x = Bench.with("var a = object {}; var b = object {}; var c = object {}; b = nil; collect; b = object {}; b = object {};");
        Bench.is("things ahead", x.things(), 0);
        Bench.is("isThere(0) ahead", x.isThere(0), false);
        x.run(6);
        Bench.is("things", x.things(), 3);
        Bench.is("isThere(2)", x.isThere(2), true);
        Bench.is("isThere(3)", x.isThere(3), false);
        x.run(2);
        Bench.is("things behind a collection", x.things(), 2);
        Bench.is("isThere(1) behind a collection", x.isThere(1), false);
        Bench.is("freed", x.freed(), 1);
        Bench.is("collections", x.collections(), 1);
        x.run(2);
        Bench.is("the smallest number is given anew", x.numberOf(1), 1);
        x.run(2);
        Bench.is("the next number", x.numberOf(1), 3);
        Bench.is("things", x.things(), 4);
        Bench.is("collect", x.collect(), 1);
        Bench.is("collect again", x.collect(), 0);
        Bench.is("freed", x.freed(), 2);
        Bench.is("collections", x.collections(), 3);
    }

    private static void refusals() {
        EmberScript x = Bench.done("var o = object {a = 1}; def f() {} def g() {yield 1;} var i = g(); var w = weak o;");
        Bench.is("kindOfThing(0)", x.kindOfThing(0), 4);
        Bench.is("kindOfThing(1)", x.kindOfThing(1), 5);
        Bench.is("kindOfThing(2)", x.kindOfThing(2), 5);
        Bench.is("kindOfThing(3)", x.kindOfThing(3), 6);
        Bench.is("kindOfThing(4)", x.kindOfThing(4), 7);
        Bench.is("isThere(47)", x.isThere(47), false);
        Bench.refusesIndex("isThere(48)", () -> x.isThere(48));
        Bench.refusesIndex("isThere(-1)", () -> x.isThere(-1));
        for (int thing : new int[] {-1, 5, 47, 48, 1000000, Integer.MIN_VALUE}) {
            Bench.refusesIndex("kindOfThing " + thing, () -> x.kindOfThing(thing));
            Bench.refusesIndex("functionOf " + thing, () -> x.functionOf(thing));
            Bench.refusesIndex("slots " + thing, () -> x.slots(thing));
            Bench.refusesIndex("wordIn " + thing, () -> x.wordIn(thing, 0));
            Bench.refusesIndex("kindIn " + thing, () -> x.kindIn(thing, 0));
            Bench.refusesIndex("numberIn " + thing, () -> x.numberIn(thing, 0));
            Bench.refusesIndex("parentOf " + thing, () -> x.parentOf(thing));
            Bench.refusesIndex("foundIn " + thing, () -> x.foundIn(thing, 0));
            Bench.refusesIndex("isLike " + thing, () -> x.isLike(thing, 0));
            Bench.refusesIndex("isLike 0 " + thing, () -> x.isLike(0, thing));
            Bench.refusesIndex("isLike 1 " + thing, () -> x.isLike(1, thing));
            Bench.refusesIndex("stateOf " + thing, () -> x.stateOf(thing));
            Bench.refusesIndex("refersTo " + thing, () -> x.refersTo(thing));
        }
        for (int thing = 1; thing < 5; thing++) {
            int other = thing;
            Bench.refusesArgument("slots " + other, () -> x.slots(other));
            Bench.refusesArgument("wordIn " + other, () -> x.wordIn(other, 0));
            Bench.refusesArgument("wordIn beyond " + other, () -> x.wordIn(other, 99));
            Bench.refusesArgument("kindIn " + other, () -> x.kindIn(other, -1));
            Bench.refusesArgument("numberIn " + other, () -> x.numberIn(other, 0));
            Bench.refusesArgument("parentOf " + other, () -> x.parentOf(other));
            Bench.refusesArgument("foundIn " + other, () -> x.foundIn(other, 0));
            Bench.refusesIndex("foundIn without the word " + other, () -> x.foundIn(other, 9));
            Bench.refusesArgument("isLike " + other, () -> x.isLike(other, 0));
            Bench.refusesArgument("isLike 0 " + other, () -> x.isLike(0, other));
        }
        Bench.refusesIndex("foundIn(0, -1)", () -> x.foundIn(0, -1));
        Bench.refusesIndex("foundIn(0, 9)", () -> x.foundIn(0, 9));
        Bench.refusesIndex("wordIn(0, 1)", () -> x.wordIn(0, 1));
        Bench.refusesIndex("wordIn(0, -1)", () -> x.wordIn(0, -1));
        Bench.refusesIndex("kindIn(0, 1)", () -> x.kindIn(0, 1));
        Bench.refusesIndex("numberIn(0, 8)", () -> x.numberIn(0, 8));
        Bench.refusesArgument("functionOf an object", () -> x.functionOf(0));
        Bench.refusesArgument("functionOf a weak reference", () -> x.functionOf(4));
        Bench.refusesArgument("stateOf an object", () -> x.stateOf(0));
        Bench.refusesArgument("stateOf a function", () -> x.stateOf(1));
        Bench.refusesArgument("stateOf a weak reference", () -> x.stateOf(4));
        Bench.refusesArgument("refersTo an object", () -> x.refersTo(0));
        Bench.refusesArgument("refersTo a generator", () -> x.refersTo(3));
    }

    private static void objects() {
        EmberScript x = Bench.done("var o = object {b = 1, a = 'full}; o.c = o; o.a = nil; object {}; o.type = true;");
        Bench.is("slots", x.slots(0), 4);
        Bench.is("slots of an empty one", x.slots(1), 0);
        int[] words = {8, 9, 10, 0};
        int[] kinds = {2, 0, 4, 1};
        int[] numbers = {1, 0, 0, 1};
        for (int n = 0; n < 4; n++) {
            Bench.is("wordIn " + n, x.wordIn(0, n), words[n]);
            Bench.is("kindIn " + n, x.kindIn(0, n), kinds[n]);
            Bench.is("numberIn " + n, x.numberIn(0, n), numbers[n]);
        }
        Bench.refusesIndex("wordIn an empty one", () -> x.wordIn(1, 0));
        EmberScript y = Bench.done("var o = object {a=1,b=2,c=3,d=4,e=5,f=6,g=7,h=8};");
        Bench.is("slots", y.slots(0), 8);
        Bench.is("numberIn(0, 7)", y.numberIn(0, 7), 8);
        Bench.refusesIndex("numberIn(0, 8)", () -> y.numberIn(0, 8));
    }

    private static void parents() {
        EmberScript x = Bench.done("var o = object {a = 1}; var p = object like o {b = 2}; var q = object like p {a = 3}; var r = object {};"
                + "'zz;");
        Bench.is("parentOf(0)", x.parentOf(0), -1);
        Bench.is("parentOf(1)", x.parentOf(1), 0);
        Bench.is("parentOf(2)", x.parentOf(2), 1);
        Bench.is("foundIn(1, a)", x.foundIn(1, 8), 0);
        Bench.is("foundIn(2, a)", x.foundIn(2, 8), 2);
        Bench.is("foundIn(2, b)", x.foundIn(2, 9), 1);
        Bench.is("foundIn(0, b)", x.foundIn(0, 9), -1);
        Bench.is("foundIn(2, zz)", x.foundIn(2, 10), -1);
        Bench.is("foundIn(3, type)", x.foundIn(3, 0), -1);
        Bench.is("isLike(2, 0)", x.isLike(2, 0), true);
        Bench.is("isLike(2, 1)", x.isLike(2, 1), true);
        Bench.is("isLike(1, 0)", x.isLike(1, 0), true);
        Bench.is("isLike(0, 1)", x.isLike(0, 1), false);
        Bench.is("isLike(0, 0)", x.isLike(0, 0), false);
        Bench.is("isLike(2, 3)", x.isLike(2, 3), false);
        Bench.is("isLike(3, 3)", x.isLike(3, 3), false);
    }

    private static void functions() {
        EmberScript x = Bench.done("def a() {} var b = fun() {return fun() {};}; var c = b(); def d() {yield 1;} var e = d();");
        Bench.is("functionOf(0)", x.functionOf(0), 0);
        Bench.is("functionOf(1)", x.functionOf(1), 1);
        Bench.is("functionOf(2)", x.functionOf(2), 2);
        Bench.is("functionOf(3)", x.functionOf(3), 3);
        Bench.is("functionOf a generator", x.functionOf(4), 3);
    }

    private static void generators() {
        EmberScript x = Bench.with("def g() {yield 1; 2;} var i = g(); next i; try {next i;} catch e {} 3;");
        x.run(4);
        Bench.is("stateOf a new one", x.stateOf(1), 0);
        x.run(1);
        Bench.is("stateOf a running one", x.stateOf(1), 2);
        x.run(1);
        Bench.is("stateOf a waiting one", x.stateOf(1), 1);
        x.run(2);
        Bench.is("stateOf a running one again", x.stateOf(1), 2);
        Bench.is("place in it", x.place(), 18);
        x.run(1);
        Bench.is("stateOf an ended one", x.stateOf(1), 3);
        EmberScript y = Bench.done("def g() {throw 1;} def h() {yield 1; return;} def k() {throw 1; yield 2;} var a = h(); for z in a {}"
                + "var b = k(); try {next b;} catch e {}");
        Bench.is("stateOf one that returned", y.stateOf(3), 3);
        Bench.is("stateOf one that threw", y.stateOf(4), 3);
        Bench.is("functionOf an ended one", y.functionOf(4), 2);
    }

    private static void weakReferences() {
        EmberScript x = Bench.done("var o = object {}; var w = weak o; var v = weak w; weak object {};");
        Bench.is("refersTo(1)", x.refersTo(1), 0);
        Bench.is("refersTo(2)", x.refersTo(2), 1);
        Bench.is("refersTo(4)", x.refersTo(4), 3);
        x.setNumber(0, 0);
        Bench.is("refersTo ahead of a collection", x.refersTo(1), 0);
        Bench.is("collect", x.collect(), 3);
        Bench.is("refersTo behind it", x.refersTo(1), -1);
        Bench.is("refersTo of what is kept", x.refersTo(2), 1);
        Bench.refusesIndex("refersTo of a freed one", () -> x.refersTo(4));
        // A new thing with the number of the freed one is another thing.
        EmberScript y = Bench.done("var o = object {}; var w = weak o; o = nil; collect; o = object {}; print w();");
        Bench.is("the number", y.numberOf(0), 0);
        Bench.is("refersTo", y.refersTo(1), -1);
        Bench.is("kindPrinted", y.kindPrinted(0), 0);
    }

    private static void fullHouse() {
        EmberScript x = Bench.with("var o = nil; for i in 48 {o = object {a = o};} try {object {};} catch e {print e;} o = 1; object {};");
        x.run(2 + 48 * 3);
        Bench.is("things", x.things(), 48);
        Bench.is("isThere(47)", x.isThere(47), true);
        x.run(200);
        Bench.is("kindPrinted", x.kindPrinted(0), 3);
        Bench.is("numberPrinted: full", x.numberPrinted(0), 5);
        Bench.is("collections", x.collections(), 2);
        Bench.is("freed", x.freed(), 48);
        Bench.is("things", x.things(), 1);
        // No step is counted for a thing that was not made.
        EmberScript y = Bench.with("var o = nil; for i in 48 {o = object {a = o};} object {};");
        y.run(200);
        Bench.is("state", y.state(), 2);
        Bench.is("steps", y.steps(), 2 + 48 * 3 + 1);
        // What is being made, and what it is made of, is kept by the collection ahead of it.
        EmberScript z = Bench.with("var o = nil; for i in 45 {o = object {a = o};} var p = object like object {b = 7} {c = object {d = 8}};"
                + "o = nil; for i in 44 {o = object {a = o};} o = nil;"
                + "var q = object like object {b = 7} {c = object {d = 8}}; print q.b + q.c.d;");
        for (int n = 0; n < 10 && z.state() == 0; n++) {
            z.run(200);
        }
        Bench.is("state", z.state(), 1);
        Bench.is("numberPrinted", z.numberPrinted(0), 15);
    }
}
