/**
 * Section 6 of the document, and promises 6 to 18, 24, 25 and 27 to 31: each sentence that names a boundary has a test
 * of its own, named after where it stands, which quotes it.
 */
public final class MachineEdges {
    private static final int[] FAR = {Integer.MIN_VALUE, -1000, 1000, Integer.MAX_VALUE};

    public static void main(String[] args) {
        Bench.runAll(MachineEdges.class);
    }

    /** Compares the steps that runs of at least one step count, and where the machine stands behind each. */
    private static void runs(String text, int[] steps, int[] places) {
        EmberScript x = Bench.with(text);
        int all = 0;
        for (int n = 0; n < steps.length; n++) {
            Bench.is("run " + n + " of " + text, x.run(1), steps[n]);
            Bench.is("place behind run " + n + " of " + text, x.place(), places[n]);
            all += steps[n];
            Bench.is("steps behind run " + n + " of " + text, x.steps(), all);
        }
        Bench.is("it has come to its end: " + text, x.state() != 0, true);
    }

    private static int[] row(int... numbers) {
        return numbers;
    }

    // ---- section 6: steps

    /** "A step is counted as a statement begins": one for each sort of statement, wherever it stands */
    static void section6StepOfAStatement() {
        runs("var a=1; a=2; a; print a; collect; throw a;", row(1, 1, 1, 1, 1, 1), row(9, 14, 17, 26, 35, -1));
        runs("if 1{2;} if nil{3;}else{4;}", row(1, 1, 1, 1), row(5, 9, 24, -1));
        runs("try{1;}catch e{2;}finally{3;}", row(1, 1, 1), row(4, 26, -1));
        runs("try{throw 1;}catch e{2;}finally{3;}", row(1, 1, 1, 1), row(4, 21, 32, -1));
        runs("nil; while nil{1;} for i in 0{1;} 2;", row(1, 1, 1, 1), row(5, 19, 34, -1));
        runs("if nil{} if 1{} try{}finally{} 1;", row(1, 1, 1, 1), row(9, 16, 31, -1));
    }

    /** "at a while or for behind each round (also one that ended by continue), ahead of the test, or of the next value" */
    static void section6StepBehindARound() {
        runs("for i in 2{} 1;", row(1, 1, 1, 1), row(0, 0, 13, -1));
        runs("for i in 2{continue;} 1;", row(1, 1, 1, 1, 1, 1), row(11, 0, 11, 0, 22, -1));
        runs("for i in 2{break;} 1;", row(1, 1, 1), row(11, 19, -1));
        runs("var n=2; while n>0{n=n-1;} 1;", row(1, 1, 1, 1, 1, 1, 1), row(9, 19, 9, 19, 9, 27, -1));
        runs("var n=2; while n>0{n=n-1; continue;} 1;", row(1, 1, 1, 1, 1, 1, 1, 1, 1), row(9, 19, 26, 9, 19, 26, 9, 37, -1));
        runs("for i in 1{try{continue;}finally{2;}} 3;", row(1, 1, 1, 1, 1, 1), row(11, 15, 33, 0, 38, -1));
    }

    /** "as a thing has been made": one for each, of each sort; none for one that was not made */
    static void section6StepOfAThing() {
        runs("object{}; 1;", row(2, 1), row(10, -1));
        runs("fun(){}; 1;", row(2, 1), row(9, -1));
        runs("def f(){} 1;", row(2, 1), row(10, -1));
        runs("weak object{}; 1;", row(3, 1), row(15, -1));
        runs("fun(){yield 1;}(); 1;", row(3, 1), row(19, -1));
        runs("object like object{}{a=object{}}; 1;", row(4, 1), row(34, -1));
        EmberScript x = Bench.done("var o=nil; for i in 48{o=object{a=o};} object{};");
        Bench.is("state", x.state(), 2);
        Bench.is("steps with one that was not made", x.steps(), 1 + 1 + 48 * 3 + 1);
        Bench.is("steps of one that is refused", Bench.done("weak 1;").steps(), 1);
        Bench.is("steps of one that is refused", Bench.done("object like 1{};").steps(), 1);
    }

    /** "as a call begins its frame": not if it has none */
    static void section6StepOfACall() {
        runs("var f=fun(){}; f(); f()==f(); 1;", row(2, 2, 3, 1), row(15, 20, 30, -1));
        runs("var f=fun(){1;}; f();", row(2, 2, 1), row(17, 12, -1));
        runs("var o=object{}; var w=weak o; w(); 1;", row(2, 2, 1, 1), row(16, 30, 35, -1));
        runs("try{nil();}catch e{} 1;", row(1, 1, 1), row(4, 21, -1));
        runs("def f(){} try{f(1);}catch e{} 1;", row(2, 1, 1, 1), row(10, 14, 30, -1));
        Bench.is("steps up to deep", Bench.done("def f(){f();} f();").steps(), 2 + 1 + 10 + 10);
    }

    /** "as a generator that is asked has its frame": not if it is refused, or has ended */
    static void section6StepOfAsking() {
        runs("var i=fun(){yield 1;}(); next i; 2; try{next i;}catch e{} 3; try{next i;}catch e{} 4;",
                row(3, 2, 1, 1, 1, 2, 1, 1, 1, 1), row(25, 12, 33, 36, 40, 58, 61, 65, 83, -1));
        runs("for k in fun(){yield 1;}(){2;} 3;", row(4, 1, 1, 2, 1), row(15, 27, 0, 31, -1));
        runs("var i=fun(){if nil{yield 1;}}(); for k in i{} for k in i{} 3;", row(3, 2, 1, 1, 1), row(33, 12, 46, 59, -1));
        runs("try{next 1;}catch e{} 2;", row(1, 1, 1), row(4, 22, -1));
    }

    /** "The machine stands only where a step of the first two sorts would be counted next": it may count more than it was told */
    static void section6WhereItStands() {
        EmberScript x = Bench.with("object{a=object{a=object{}}}; 1;");
        Bench.is("run(1)", x.run(1), 4);
        Bench.is("place", x.place(), 30);
        EmberScript y = Bench.with("object{}; object{}; object{};");
        Bench.is("run(2)", y.run(2), 2);
        Bench.is("run(3)", y.run(3), 4);
        Bench.is("state", y.state(), 1);
    }

    /** "or as the script has ended or failed; at first it stands ahead of the first statement" */
    static void section6WhereItStandsAtFirst() {
        EmberScript x = Bench.with(" \n1;");
        Bench.is("place", x.place(), 2);
        Bench.is("steps", x.steps(), 0);
        Bench.is("run", x.run(1), 1);
        Bench.is("state", x.state(), 1);
        EmberScript y = Bench.with("throw 1;");
        Bench.is("run", y.run(1), 1);
        Bench.is("state", y.state(), 2);
    }

    /** "As it stands in a round of a loop, or at the while or for behind a round, it is in this loop" */
    static void section6InALoop() {
        EmberScript x = Bench.with("1; while true{2; break;} 3; for i in 1{4;} 5;");
        // 1; while, 2; break, 3; for, 4; for behind its round, 5;
        int[] due = {0, 0, 1, 1, 0, 0, 1, 1, 0, 0};
        for (int n = 0; n < due.length; n++) {
            Bench.is("loops " + n, x.loops(), due[n]);
            if (x.state() == 0) {
                x.run(1);
            }
        }
        EmberScript y = Bench.with("while true{}");
        Bench.is("loops ahead of the while", y.loops(), 0);
        y.run(1);
        Bench.is("place behind a round", y.place(), 0);
        Bench.is("loops behind a round", y.loops(), 1);
    }

    /** "as it stands in a block, it is in this block" */
    static void section6InABlock() {
        EmberScript x = Bench.with("1; try{2; if 1{3;}}catch e{4;} 5;");
        boolean[] due = {false, false, true, true, true, false, false};
        for (int n = 0; n < due.length; n++) {
            Bench.is("isGuarded " + n, x.isGuarded(), due[n]);
            if (x.state() == 0) {
                x.run(1);
            }
        }
    }

    /** "(Loops and blocks round the text of a function are not those of its frame.)" */
    static void section6RoundTheTextOfAFunction() {
        EmberScript x = Bench.at("var f=nil; while true{try{f=fun(){#1;};}catch e{} break;} f();");
        Bench.is("loops", x.loops(), 0);
        Bench.is("isGuarded", x.isGuarded(), false);
        EmberScript y = Bench.at("var f=nil; while true{f=fun(){while true{#1;}}; break;} f();");
        Bench.is("loops of its own", y.loops(), 1);
    }

    // ---- promises 6 to 9

    /** "Throws IllegalArgumentException if steps is not 1 to 200" */
    static void promise6NotOneTo200() {
        EmberScript x = Bench.with("while true{}");
        Bench.refusesArgument("run(0)", x, () -> x.run(0));
        Bench.refusesArgument("run(-1)", x, () -> x.run(-1));
        Bench.refusesArgument("run(201)", x, () -> x.run(201));
        for (int far : FAR) {
            Bench.refusesArgument("run far away", x, () -> x.run(far));
        }
        Bench.is("run(1)", x.run(1), 1);
        Bench.is("run(200)", x.run(200), 200);
        Bench.is("run(199)", x.run(199), 199);
        Bench.is("steps", x.steps(), 400);
    }

    /** "till the machine stands, and so many steps were counted, or more" */
    static void promise6SoManyOrMore() {
        EmberScript x = Bench.with("1; 2; object{}; 3; object{}; 4;");
        Bench.is("run(2)", x.run(2), 2);
        Bench.is("run(1): 2 more", x.run(1), 2);
        Bench.is("run(2): 3 more", x.run(2), 3);
        Bench.is("place", x.place(), 29);
    }

    /** "or the script has ended or failed" */
    static void promise6EndedOrFailed() {
        Bench.is("run(200) of 2", Bench.with("1; 2;").run(200), 2);
        Bench.is("run(200) of a failure", Bench.with("1; throw 2; 3;").run(200), 2);
        EmberScript x = Bench.with("1; 2;");
        Bench.is("run(2) of 2", x.run(2), 2);
        Bench.is("state", x.state(), 1);
    }

    /** "Throws IllegalStateException if it has ended or failed" */
    static void promise6HasEndedOrFailed() {
        EmberScript x = Bench.with("1;");
        x.run(1);
        Bench.refusesState("run behind the end", x, () -> x.run(1));
        Bench.refusesState("run(200) behind the end", x, () -> x.run(200));
        EmberScript y = Bench.with("throw 1;");
        y.run(1);
        Bench.refusesState("run behind a failure", y, () -> y.run(1));
        EmberScript z = new EmberScript();
        Bench.refusesState("run of a new object", z, () -> z.run(1));
    }

    /** "If several exceptions apply, the one that is named first is thrown.": run */
    static void promise6TheFirstOfTwo() {
        for (EmberScript x : new EmberScript[] {new EmberScript(), Bench.done("1;"), Bench.done("throw 1;")}) {
            Bench.refusesArgument("run(0)", x, () -> x.run(0));
            Bench.refusesArgument("run(201)", x, () -> x.run(201));
            Bench.refusesState("run(1)", x, () -> x.run(1));
            Bench.refusesState("run(200)", x, () -> x.run(200));
        }
    }

    /** "Throws IndexOutOfBoundsException if there is no such word" */
    static void promise7NoSuchWord() {
        EmberScript x = Bench.with("try{1;}catch e{print e;} 'a;");
        x.run(1);
        Bench.is("words", x.words(), 9);
        Bench.refusesIndex("interrupt(9)", x, () -> x.interrupt(9));
        Bench.refusesIndex("interrupt(-1)", x, () -> x.interrupt(-1));
        for (int far : FAR) {
            Bench.refusesIndex("interrupt far away", x, () -> x.interrupt(far));
        }
        Bench.is("interrupt(8)", x.interrupt(8), 0);
        x.run(1);
        Bench.is("what was caught", x.kindPrinted(0), 3);
        Bench.is("its word", x.numberPrinted(0), 8);
        EmberScript y = Bench.with("1;");
        Bench.refusesIndex("interrupt(8) without other words", y, () -> y.interrupt(8));
        Bench.is("interrupt(7)", y.interrupt(7), 2);
        Bench.is("numberThrown", y.numberThrown(), 7);
        EmberScript z = Bench.with("1;");
        Bench.is("interrupt(0)", z.interrupt(0), 2);
        Bench.is("numberThrown", z.numberThrown(), 0);
    }

    /** "Throws IllegalStateException if the script has ended or failed"; of two exceptions the first */
    static void promise7HasEndedOrFailed() {
        for (EmberScript x : new EmberScript[] {new EmberScript(), Bench.done("1;"), Bench.done("throw 1;")}) {
            Bench.refusesState("interrupt(0)", x, () -> x.interrupt(0));
            Bench.refusesState("interrupt(7)", x, () -> x.interrupt(7));
            Bench.refusesIndex("interrupt(8)", x, () -> x.interrupt(8));
            Bench.refusesIndex("interrupt(-1)", x, () -> x.interrupt(-1));
        }
    }

    /** "in the place of the next step (which is not counted)" */
    static void promise7StepIsNotCounted() {
        EmberScript x = Bench.with("try{1; print 2;}catch e{3;} 4;");
        x.run(2);
        Bench.is("interrupt", x.interrupt(0), 0);
        Bench.is("steps", x.steps(), 2);
        Bench.is("printed", x.printed(), 0);
        Bench.is("place", x.place(), 24);
    }

    /** "lets it go on till it stands again (at once, if it does then)" */
    static void promise7GoesOnTillItStands() {
        // On the way behind the catch a thing is made, and a call begins.
        EmberScript x = Bench.at("def f(){try{#1;}catch e{}} def k(){} f()==object{a=k()}; 2;");
        int before = x.steps();
        Bench.is("interrupt", x.interrupt(0), 0);
        Bench.is("steps", x.steps(), before + 2);
        Bench.is("place", x.place(), 56);
        EmberScript y = Bench.at("try{#1;}catch e{} while true{}");
        Bench.is("interrupt", y.interrupt(0), 0);
        Bench.is("steps", y.steps(), 1);
    }

    /** "or the script has ended or failed": "Returns state() behind it." */
    static void promise7StateBehindIt() {
        Bench.is("it goes on", Bench.at("try{#1;}catch e{2;}").interrupt(0), 0);
        Bench.is("it ends", Bench.at("try{#1;}catch e{}").interrupt(0), 1);
        Bench.is("it fails", Bench.at("#1;").interrupt(0), 2);
        Bench.is("it fails behind a finally", Bench.at("try{#1;}finally{}").interrupt(0), 2);
        Bench.is("it goes on in a finally", Bench.at("try{#1;}finally{2;}").interrupt(0), 0);
        Bench.is("in a catch it is not caught", Bench.at("try{throw 1;}catch e{#2;}").interrupt(0), 2);
        Bench.is("nor ahead of a try", Bench.at("#try{1;}catch e{}").interrupt(0), 2);
    }

    /** "Throws IndexOutOfBoundsException if there is no such variable"; "Returns the kind of the value that it had." */
    static void promise8NoSuchVariable() {
        EmberScript x = Bench.done("var a=nil; var b=true; var c=object{};");
        Bench.refusesIndex("setNumber(3)", x, () -> x.setNumber(3, 1));
        Bench.refusesIndex("setNumber(-1)", x, () -> x.setNumber(-1, 1));
        for (int far : FAR) {
            Bench.refusesIndex("setNumber far away", x, () -> x.setNumber(far, 1));
        }
        Bench.is("setNumber(2)", x.setNumber(2, Integer.MIN_VALUE), 4);
        Bench.is("numberOf(2)", x.numberOf(2), Integer.MIN_VALUE);
        Bench.is("setNumber(0)", x.setNumber(0, Integer.MAX_VALUE), 0);
        Bench.is("numberOf(0)", x.numberOf(0), Integer.MAX_VALUE);
        Bench.is("setNumber(1)", x.setNumber(1, -1), 1);
        Bench.is("setNumber(1) again", x.setNumber(1, 0), 2);
        Bench.is("kindOf(1)", x.kindOf(1), 2);
        EmberScript y = new EmberScript();
        Bench.refusesIndex("setNumber(0) without variables", y, () -> y.setNumber(0, 1));
        StringBuilder text = new StringBuilder();
        for (int n = 0; n < 16; n++) {
            text.append("var v").append(n).append("=nil;");
        }
        EmberScript z = Bench.with(text.toString());
        Bench.is("setNumber(15)", z.setNumber(15, 1), 0);
        Bench.refusesIndex("setNumber(16)", z, () -> z.setNumber(16, 1));
    }

    /** A variable of a function is none of the script. */
    static void promise8VariablesOfFunctionsAreOthers() {
        EmberScript x = Bench.at("var a=1; def f(b,c,d){#print b;} f(5,6,7);");
        Bench.is("setNumber", x.setNumber(1, 9), 5);
        Bench.refusesIndex("setNumber(2)", x, () -> x.setNumber(2, 9));
        x.run(1);
        Bench.is("numberPrinted", x.numberPrinted(0), 5);
    }

    /** "Returns how many things it frees.": none, one, all */
    static void promise9Collect() {
        Bench.is("without things", new EmberScript().collect(), 0);
        EmberScript x = Bench.done("var a=object{}; object{};");
        Bench.is("one of two", x.collect(), 1);
        Bench.is("none", x.collect(), 0);
        Bench.is("things", x.things(), 1);
        x.setNumber(0, 0);
        Bench.is("the other one", x.collect(), 1);
        Bench.is("collections", x.collections(), 3);
        Bench.is("freed", x.freed(), 2);
        Bench.is("all of 48", Bench.done("for i in 48{object{};}").collect(), 48);
        Bench.is("none of 48", Bench.done("var o=nil; for i in 48{o=object{a=o};}").collect(), 0);
    }

    // ---- promises 10 to 18

    /** "Returns 0 if the script can go on, 1 if it has ended, 2 if it has failed." */
    static void promise10State() {
        EmberScript x = Bench.with("1; 2;");
        Bench.is("at first", x.state(), 0);
        x.run(1);
        Bench.is("ahead of the last statement", x.state(), 0);
        x.run(1);
        Bench.is("behind the last statement", x.state(), 1);
        EmberScript y = Bench.with("throw 1; 2;");
        Bench.is("ahead of the failure", y.state(), 0);
        y.run(1);
        Bench.is("behind the failure", y.state(), 2);
    }

    /** "Returns how many steps were counted.": by all calls */
    static void promise11Steps() {
        EmberScript x = Bench.at("def f(){try{#1;}catch e{}} f()==object{}; while true{}");
        Bench.is("steps", x.steps(), 5);
        x.interrupt(0);
        Bench.is("with that of the interrupt", x.steps(), 6);
        x.stepsToEnd(200);
        x.thingsIn(200);
        Bench.is("but not of what would be", x.steps(), 6);
        x.run(200);
        Bench.is("and of a run", x.steps(), 206);
    }

    /** "Returns how many frames there are.": 0 to 10 */
    static void promise12Frames() {
        EmberScript x = Bench.with("def f(n){if n>1{f(n-1);} 2;} f(10);");
        x.run(2);
        Bench.is("in the script", x.frames(), 0);
        for (int frames = 1; frames <= 10; frames++) {
            x.run(1);
            Bench.is("frames", x.frames(), frames);
            x.run(1);
        }
        Bench.is("in the last", x.frames(), 10);
        x.run(1);
        Bench.is("behind it", x.frames(), 9);
        x.run(200);
        Bench.is("behind the end", x.frames(), 0);
        EmberScript y = Bench.at("def g(){#yield 1;} next g();");
        Bench.is("of a generator", y.frames(), 1);
        y.interrupt(0);
        Bench.is("behind a failure", y.frames(), 0);
    }

    /** "-1 if the script has ended or failed" */
    static void promise13Place() {
        EmberScript x = Bench.with("1;2;");
        Bench.is("at first", x.place(), 0);
        x.run(1);
        Bench.is("ahead of the second", x.place(), 2);
        x.run(1);
        Bench.is("behind the end", x.place(), -1);
        EmberScript y = Bench.with("1;throw 2;");
        y.run(2);
        Bench.is("behind a failure", y.place(), -1);
        Bench.is("of a new object", new EmberScript().place(), -1);
    }

    /** "(or the while or for)" */
    static void promise13PlaceOfALoop() {
        EmberScript x = Bench.with("1; for i in 2{2;} while true{}");
        int[] due = {0, 3, 14, 3, 14, 3, 18, 18, 18};
        for (int place : due) {
            Bench.is("place", x.place(), place);
            x.run(1);
        }
    }

    /** "-1 without frames" */
    static void promise14FunctionNow() {
        EmberScript x = Bench.at("def f(){g();} def g(){1;} #f(); 3;");
        Bench.is("without frames", x.functionNow(), -1);
        x.run(1);
        Bench.is("in the first function", x.functionNow(), 0);
        x.run(1);
        Bench.is("the newest counts", x.functionNow(), 1);
        x.run(1);
        Bench.is("without frames again", x.functionNow(), -1);
        x.run(1);
        Bench.is("behind the end", x.functionNow(), -1);
        EmberScript y = Bench.done("def f(){throw 1;} f();");
        Bench.is("behind a failure", y.functionNow(), -1);
        EmberScript z = Bench.at(Bench.times("fun(){};", 19) + "fun(){#1;}();");
        Bench.is("in the last function", z.functionNow(), 19);
    }

    /** "0 if the script has ended or failed" */
    static void promise15Loops() {
        String deep = Bench.times("for i in 1{", 12);
        EmberScript x = Bench.at(deep + "#1;" + Bench.times("}", 12));
        Bench.is("in 12", x.loops(), 12);
        x.run(200);
        Bench.is("behind the end", x.loops(), 0);
        EmberScript y = Bench.at(deep + "#throw 1;" + Bench.times("}", 12));
        y.run(1);
        Bench.is("behind a failure", y.loops(), 0);
        Bench.is("of a new object", new EmberScript().loops(), 0);
        Bench.is("in no loop", Bench.with("while true{}").loops(), 0);
    }

    /** "in the newest frame, or in the script without frames" */
    static void promise15LoopsOfTheNewestFrame() {
        EmberScript x = Bench.at("def f(){#1;} for i in 1{for j in 1{f();}}");
        Bench.is("in a function without loops", x.loops(), 0);
        x.run(1);
        Bench.is("in the script again", x.loops(), 2);
        EmberScript y = Bench.at("def f(){while true{#1;}} f();");
        Bench.is("in a function with one", y.loops(), 1);
    }

    /** "stands in the block of a try with a catch": not in its catch, nor its finally, nor a try without catch */
    static void promise16InTheBlockOfATry() {
        Bench.is("in it", Bench.at("try{#1;}catch e{}").isGuarded(), true);
        Bench.is("in it, with a finally", Bench.at("try{#1;}catch e{}finally{}").isGuarded(), true);
        Bench.is("ahead of it", Bench.at("#try{1;}catch e{}").isGuarded(), false);
        Bench.is("behind it", Bench.at("try{1;}catch e{} #2;").isGuarded(), false);
        Bench.is("in the catch", Bench.at("try{throw 1;}catch e{#2;}").isGuarded(), false);
        Bench.is("in the finally", Bench.at("try{1;}catch e{}finally{#2;}").isGuarded(), false);
        Bench.is("in the finally behind a throw", Bench.at("try{throw 1;}catch e{throw 2;}finally{#3;}").isGuarded(), false);
        Bench.is("without a catch", Bench.at("try{#1;}finally{}").isGuarded(), false);
        Bench.is("in one round it", Bench.at("try{try{throw 1;}catch e{#2;}}catch e{}").isGuarded(), true);
        Bench.is("in a try without catch in one", Bench.at("try{try{#1;}finally{}}catch e{}").isGuarded(), true);
        Bench.is("at a while behind a round", Bench.at("try{1; #while true{}}catch e{}").isGuarded(), true);
    }

    /** "or a frame that waits for a newer one, or the script as it does so, is in one" */
    static void promise16FramesThatWait() {
        Bench.is("the script", Bench.at("def f(){#1;} try{f();}catch e{}").isGuarded(), true);
        Bench.is("the script behind its try", Bench.at("def f(){#1;} try{1;}catch e{} f();").isGuarded(), false);
        Bench.is("a frame", Bench.at("def f(){#1;} def g(){try{f();}catch e{}} g();").isGuarded(), true);
        Bench.is("what asks", Bench.at("def g(){#yield 1;} try{for i in g(){}}catch e{}").isGuarded(), true);
        Bench.is("a generator that waits is none", Bench.at("def g(){try{yield 1;}catch e{}} var i=g(); next i; #1;").isGuarded(), false);
        Bench.is("a function that was left is none", Bench.at("def f(){try{return 1;}catch e{}} f(); #1;").isGuarded(), false);
        EmberScript x = Bench.at("try{#1;}catch e{}");
        x.run(1);
        Bench.is("behind the end", x.isGuarded(), false);
    }

    /** "Returns how many collections there were.": of the statement, of the call, and as things are made */
    static void promise17Collections() {
        EmberScript x = Bench.with("1; collect; for i in 49{object{};} 2;");
        Bench.is("at first", x.collections(), 0);
        x.run(1);
        Bench.is("ahead", x.collections(), 0);
        x.run(1);
        Bench.is("of the statement", x.collections(), 1);
        x.collect();
        Bench.is("of the call", x.collections(), 2);
        x.run(1 + 48 * 3);
        Bench.is("of 48 things", x.collections(), 2);
        Bench.is("things", x.things(), 48);
        x.run(1);
        Bench.is("of the 49th", x.collections(), 3);
        x.garbage();
        x.retained(0);
        x.thingsIn(200);
        Bench.is("of what is only asked", x.collections(), 3);
    }

    /** "Returns how many things were freed.": by all collections */
    static void promise18Freed() {
        EmberScript x = Bench.with("object{}; object{}; collect; object{}; for i in 48{object{};}");
        x.run(4);
        Bench.is("ahead", x.freed(), 0);
        x.run(1);
        Bench.is("by the statement", x.freed(), 2);
        x.run(2);
        Bench.is("collect", x.collect(), 1);
        Bench.is("by the call", x.freed(), 3);
        x.run(200);
        Bench.is("things", x.things(), 48);
        EmberScript y = Bench.done("for i in 50{object{};}");
        Bench.is("as things are made", y.freed(), 48);
        Bench.is("things", y.things(), 2);
    }

    // ---- promises 24, 25, 27 to 31

    /** "Throws IndexOutOfBoundsException if there is no such variable" */
    static void promise24NoSuchVariable() {
        EmberScript x = Bench.done("var a=true; var b='full;");
        Bench.is("kindOf(0)", x.kindOf(0), 1);
        Bench.is("kindOf(1)", x.kindOf(1), 3);
        Bench.refusesIndex("kindOf(2)", x, () -> x.kindOf(2));
        Bench.refusesIndex("kindOf(-1)", x, () -> x.kindOf(-1));
        for (int far : FAR) {
            Bench.refusesIndex("kindOf far away", x, () -> x.kindOf(far));
        }
        EmberScript y = new EmberScript();
        Bench.refusesIndex("kindOf(0) without variables", y, () -> y.kindOf(0));
    }

    /** "Throws IndexOutOfBoundsException if there is no such variable" */
    static void promise25NoSuchVariable() {
        EmberScript x = Bench.done("var a=true; var b='full;");
        Bench.is("numberOf(0)", x.numberOf(0), 1);
        Bench.is("numberOf(1)", x.numberOf(1), 5);
        Bench.refusesIndex("numberOf(2)", x, () -> x.numberOf(2));
        Bench.refusesIndex("numberOf(-1)", x, () -> x.numberOf(-1));
        for (int far : FAR) {
            Bench.refusesIndex("numberOf far away", x, () -> x.numberOf(far));
        }
        EmberScript y = new EmberScript();
        Bench.refusesIndex("numberOf(0) without variables", y, () -> y.numberOf(0));
    }

    /** "Returns how many values were printed.": more than are kept, too */
    static void promise27Printed() {
        EmberScript x = Bench.with("for i in 60{print i;}");
        Bench.is("at first", x.printed(), 0);
        x.run(1);
        Bench.is("ahead of the first", x.printed(), 0);
        x.run(1);
        Bench.is("behind the first", x.printed(), 1);
        x.run(39 * 2);
        Bench.is("40", x.printed(), 40);
        x.run(2);
        Bench.is("41", x.printed(), 41);
        x.run(200);
        Bench.is("60", x.printed(), 60);
    }

    private static EmberScript printed(int count) {
        EmberScript x = Bench.done("for i in " + count + "{print i;}");
        Bench.is("printed", x.printed(), count);
        return x;
    }

    /** "Throws IndexOutOfBoundsException if back is not 0 to 39, or not so many were printed": kindPrinted */
    static void promise28NotSoManyPrinted() {
        for (int count : new int[] {0, 1, 2, 39, 40, 41, 90}) {
            EmberScript x = printed(count);
            int last = Math.min(count, 40) - 1;
            if (last >= 0) {
                Bench.is("kindPrinted(0)", x.kindPrinted(0), 2);
                Bench.is("kindPrinted of the last", x.kindPrinted(last), 2);
            }
            Bench.refusesIndex("kindPrinted behind the last of " + count, x, () -> x.kindPrinted(last + 1));
            Bench.refusesIndex("kindPrinted(40)", x, () -> x.kindPrinted(40));
            Bench.refusesIndex("kindPrinted(-1)", x, () -> x.kindPrinted(-1));
            for (int far : FAR) {
                Bench.refusesIndex("kindPrinted far away", x, () -> x.kindPrinted(far));
            }
        }
    }

    /** "Throws IndexOutOfBoundsException if back is not 0 to 39, or not so many were printed": numberPrinted */
    static void promise29NotSoManyPrinted() {
        for (int count : new int[] {0, 1, 2, 39, 40, 41, 90}) {
            EmberScript x = printed(count);
            int last = Math.min(count, 40) - 1;
            for (int back = 0; back <= last; back++) {
                Bench.is("numberPrinted", x.numberPrinted(back), count - 1 - back);
            }
            Bench.refusesIndex("numberPrinted behind the last of " + count, x, () -> x.numberPrinted(last + 1));
            Bench.refusesIndex("numberPrinted(40)", x, () -> x.numberPrinted(40));
            Bench.refusesIndex("numberPrinted(-1)", x, () -> x.numberPrinted(-1));
            for (int far : FAR) {
                Bench.refusesIndex("numberPrinted far away", x, () -> x.numberPrinted(far));
            }
        }
    }

    /** "Throws IllegalStateException if the script has not failed": kindThrown */
    static void promise30HasNotFailed() {
        EmberScript x = Bench.with("try{throw 1;}catch e{} throw nil;");
        Bench.refusesState("kindThrown at first", x, () -> x.kindThrown());
        x.run(2);
        Bench.refusesState("kindThrown behind what was caught", x, () -> x.kindThrown());
        x.run(1);
        Bench.is("kindThrown of nil", x.kindThrown(), 0);
        EmberScript y = Bench.done("1;");
        Bench.refusesState("kindThrown behind the end", y, () -> y.kindThrown());
        EmberScript z = new EmberScript();
        Bench.refusesState("kindThrown of a new object", z, () -> z.kindThrown());
        Bench.is("kindThrown of a thing", Bench.done("throw fun(){};").kindThrown(), 5);
    }

    /** "Throws IllegalStateException if the script has not failed": numberThrown */
    static void promise31HasNotFailed() {
        EmberScript x = Bench.with("try{throw 1;}catch e{} throw -5;");
        Bench.refusesState("numberThrown at first", x, () -> x.numberThrown());
        x.run(2);
        Bench.refusesState("numberThrown behind what was caught", x, () -> x.numberThrown());
        x.run(1);
        Bench.is("numberThrown", x.numberThrown(), -5);
        EmberScript y = Bench.done("1;");
        Bench.refusesState("numberThrown behind the end", y, () -> y.numberThrown());
        EmberScript z = new EmberScript();
        Bench.refusesState("numberThrown of a new object", z, () -> z.numberThrown());
        Bench.is("numberThrown of a thing", Bench.done("object{}; throw fun(){};").numberThrown(), 1);
    }
}
