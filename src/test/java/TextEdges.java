/**
 * Section 1 of the document, and promises 1 to 5, 19 to 23 and 26: each sentence that names a boundary has a test of
 * its own, named after where it stands, which quotes it.
 */
public final class TextEdges {
    private static final String[] KEYWORDS = ("var def fun return yield if else while for in break continue try catch "
            + "finally throw print collect object like nil true false self not and or weak next").split(" ");

    public static void main(String[] args) {
        Bench.runAll(TextEdges.class);
    }

    // ---- section 1: tape and tokens

    /** "a row of at most 2000 bytes" */
    static void section1TapeOf2000Bytes() {
        EmberScript x = new EmberScript();
        feedBlanks(x, 99);
        Bench.is("feed to 2000", x.feed(0x20202020, 0x20202020, 0x20202020, 0x20202020, 0x20202041), 2000);
        Bench.is("load of 2000 bytes", x.load(), 1);
        Bench.is("the last of them is read", x.errorAt(), 1999);
        feedBlanks(x, 100);
        Bench.is("a statement at the end", x.trim(1980), 1980);
        Bench.is("feed", x.feed(0x20202020, 0x20202020, 0x20202020, 0x7072696e, 0x7420313b), 2000);
        Bench.is("load", x.load(), 0);
        Bench.is("place of the last statement", x.place(), 1992);
    }

    /** "at first empty" */
    static void section1TapeIsEmptyAtFirst() {
        EmberScript x = new EmberScript();
        Bench.refusesArgument("trim(1)", x, () -> x.trim(1));
        Bench.is("trim(0)", x.trim(0), 0);
        Bench.is("feed", feedBlanks(x, 1), 20);
    }

    /** "it is empty behind it" */
    static void section1TapeIsEmptyBehindLoad() {
        EmberScript x = new EmberScript();
        Bench.is("load", Bench.load(x, "print 1;"), 0);
        Bench.refusesArgument("trim(1) behind a load", x, () -> x.trim(1));
        Bench.is("feed behind a load", feedBlanks(x, 1), 20);
        Bench.is("load of an error", Bench.load(x, "print"), 1);
        Bench.refusesArgument("trim(1) behind an error", x, () -> x.trim(1));
        Bench.is("feed behind an error", feedBlanks(x, 1), 20);
    }

    /** "Blanks (32) and line ends (10) can stand between tokens, at the beginning and at the end" */
    static void section1BlanksAre32And10() {
        Bench.loads(" \n \nprint\n1 \n ; \n\n");
        for (int other : new int[] {0, 1, 9, 11, 12, 13, 31, 33, 127, 128, 133, 138, 160, 255}) {
            char letter = (char) other;
            Bench.fails(letter + "print 1;", 1, 0);
            Bench.fails("print" + letter + "1;", 1, 5);
            Bench.fails("print 1;" + letter, 1, 8);
        }
    }

    /** "have to stand between two tokens that would otherwise be read as one" */
    static void section1BlanksBetweenWhatWouldBeOne() {
        Bench.loads("var x=1;");
        Bench.failsAt("#varx=1;", 2);
        Bench.loads("print 1;");
        Bench.failsAt("#print1;", 2);
        Bench.loads("print'a;");
        Bench.loads("print 1and 2;");
        Bench.failsAt("print 1 #and2;", 1);
        Bench.failsAt("print 1 #2;", 1);
        Bench.loads("print 12;");
        Bench.failsAt("print 1< #=2;", 1);
        Bench.loads("print 1<=2;");
        Bench.failsAt("print 1 #= =2;", 1);
        Bench.loads("print 1==2;");
    }

    /** "The longest possible token is always read." */
    static void section1LongestToken() {
        Bench.failsAt("print 1<=#=2;", 1);
        Bench.failsAt("print 1==#=2;", 1);
        Bench.failsAt("print 1!=#=2;", 1);
        Bench.failsAt("print 1<#<2;", 1);
        Bench.failsAt("#ifx=1;", 2);
        Bench.failsAt("print #nots;", 2);
        Bench.failsAt("print 12#a;", 1);
        Bench.prints("print 'ab == 'a; print 'a1 == 'a; print 'ab == 'ab;", "false false true");
    }

    /** "A word: a letter a to z, followed by .." */
    static void section1WordBeginsWithALetter() {
        Bench.loads("var a=1; var z=1; var m=1;");
        for (char other : new char[] {'`', '{', 'A', 'Z', '_', '@', '[', '0', '9', (char) 225}) {
            Bench.fails("var " + other + "=1;", 1, 4);
        }
    }

    /** "followed by letters a to z and digits" */
    static void section1WordGoesOnWithLettersAndDigits() {
        Bench.loads("var aa=1; var az=1; var a0=1; var a9=1; var a5m=1;");
        for (char other : new char[] {'`', '{', 'A', 'Z', '_', '/', ':', '\'', (char) 176, (char) 225}) {
            Bench.fails("var a" + other + "=1;", 1, 5);
        }
    }

    /** "at most 10 bytes"; of error 1: "a word .. that is too long" */
    static void section1WordOf10Bytes() {
        Bench.loads("var abcdefghij=1; print abcdefghij;");
        Bench.failsAt("var #abcdefghijk=1;", 1);
        Bench.loads("var a123456789=1;");
        Bench.failsAt("var #a1234567890=1;", 1);
        Bench.loads("nil.abcdefghij;");
        Bench.failsAt("nil.#abcdefghijk;", 1);
        Bench.loads("var continue10=1;");
        Bench.failsAt("var #continue100=1;", 1);
        Bench.failsAt("var #" + Bench.times("a", 1900) + "=1;", 1);
    }

    /** All 10 bytes of a word count. */
    static void section1WordsAreToldApart() {
        Bench.loads("var abcdefghij=1; var abcdefghik=2; var abcdefghi=3; var bbcdefghij=4;");
        Bench.prints("var zzzzzzzzzz=1; var zzzzzzzzzy=2; var z9=3; var z8=4; print zzzzzzzzzz; print zzzzzzzzzy; print z9; print z8;",
                "1 2 3 4");
    }

    /** "A number: 1 to 6 digits."; of error 1: "a number that is too long" */
    static void section1NumberOf6Digits() {
        Bench.prints("print 0; print 9; print 999999; print 100000; print 000001;", "0 9 999999 100000 1");
        Bench.failsAt("print #1000000;", 1);
        Bench.failsAt("print #0000000;", 1);
        Bench.failsAt("print #9999999999999999999999;", 1);
    }

    /** "A symbol: ' with a word right behind it"; of error 1: "a ' with no letter .. right behind it" */
    static void section1SymbolWithItsWordRightBehind() {
        Bench.loads("print 'a; print 'z; print 'a0;");
        Bench.failsAt("print #' a;", 1);
        Bench.failsAt("print #'1;", 1);
        Bench.failsAt("print #''a;", 1);
        Bench.failsAt("print #'A;", 1);
        Bench.failsAt("print #'`;", 1);
        Bench.failsAt("print #'{;", 1);
        Bench.failsAt("print #'", 1);
    }

    /** "which can be a keyword" */
    static void section1SymbolOfAKeyword() {
        for (String keyword : KEYWORDS) {
            Bench.loads("print '" + keyword + ";");
        }
    }

    /** Of error 1: "the word of a symbol (then at its ')" that is too long */
    static void section1SymbolOf10Bytes() {
        Bench.loads("print 'abcdefghij;");
        Bench.failsAt("print #'abcdefghijk;", 1);
        Bench.loads("print 'a123456789;");
        Bench.failsAt("print #'a1234567890;", 1);
    }

    /** "Signs: ( ) { } , ; . + - * / % < > = <= >= == !=" */
    static void section1Signs() {
        Bench.loads("def f(a,b){return a;}f(1,2);nil.a=-1+2-3*4/5%6<7;1>2;1<=2;1>=2;1==2;1!=2;");
    }

    /** Of error 1: "a byte with which no token begins" */
    static void section1BytesThatBeginNoToken() {
        for (int letter = 0; letter < 256; letter++) {
            boolean begins = letter >= 'a' && letter <= 'z' || letter >= '0' && letter <= '9' || " \n'(){},;.+-*/%<>=".indexOf(letter) >= 0;
            if (!begins) {
                Bench.fails("print 1;" + (char) letter + "=;", 1, 8);
            }
        }
    }

    /** Of error 1: "a ! with no =, right behind it" */
    static void section1ExclamationMarkWithoutEquals() {
        Bench.loads("print 1!=2;");
        Bench.failsAt("print 1#! =2;", 1);
        Bench.failsAt("print 1#!<2;", 1);
        Bench.failsAt("print 1#!!=2;", 1);
        Bench.failsAt("print 1#!", 1);
    }

    /** "The keywords are: .. All other words are names." */
    static void section1KeywordsAreNoNames() {
        for (String keyword : KEYWORDS) {
            Bench.failsAt("var #" + keyword + "=1;", 1);
            Bench.loads("var " + keyword + "x=1;");
            Bench.loads("var " + keyword.substring(0, keyword.length() - 1) + "=1;");
        }
    }

    // ---- section 1: grammar

    /** "script = { statement }", "block = "{" { statement } "}"": none, one, many */
    static void section1RowsOfStatements() {
        Bench.loads("");
        Bench.loads("1;");
        Bench.loads("1;2;");
        Bench.loads("if 1{}if 1{1;}if 1{1;2;}");
        Bench.failsAt("#;", 1);
        Bench.failsAt("1;#;", 1);
        Bench.failsAt("if 1{#;}", 1);
        Bench.failsAt("#}", 1);
        Bench.failsAt("if 1{}#}", 1);
        Bench.failsAt("if 1{#", 1);
    }

    /** "[ "else" block ]", "[ value ]", "[ "finally" block ]": nothing, or once */
    static void section1WhatCanBeLeftOut() {
        Bench.loads("if 1{} if 1{}else{}");
        Bench.failsAt("if 1{}else{}#else{}", 1);
        Bench.loads("def f(){return;} def g(){return 1;}");
        Bench.failsAt("def f(){return 1 #2;}", 1);
        Bench.loads("try{}catch e{} try{}finally{} try{}catch e{}finally{}");
        Bench.failsAt("try{}#1;", 1);
        Bench.failsAt("try{}finally{}#finally{}", 1);
        Bench.failsAt("try{}catch e{}finally{}#finally{}", 1);
        Bench.failsAt("try{}catch e{}#catch e{}", 1);
        Bench.failsAt("try{}finally{}#catch e{}", 1);
        Bench.loads("object{}; object like nil{};");
        Bench.failsAt("object like nil #like nil{};", 1);
    }

    /** "inputs = "(" [ name { "," name } ] ")"": none, one, many */
    static void section1RowsOfInputs() {
        Bench.loads("def f(){} def g(a){} def h(a,b,c){} fun(){}; fun(a){}; fun(a,b){};");
        Bench.failsAt("def f(#,){}", 1);
        Bench.failsAt("def f(a,#){}", 1);
        Bench.failsAt("def f(a #b){}", 1);
        Bench.failsAt("def f(#1){}", 1);
        Bench.failsAt("def f#{}", 1);
        Bench.failsAt("fun #f(){};", 1);
    }

    /** ""(" [ value { "," value } ] ")"": none, one, many */
    static void section1RowsOfValues() {
        Bench.loads("nil(); nil(1); nil(1,2,3); nil()()(1)(2,3);");
        Bench.failsAt("nil(#,);", 1);
        Bench.failsAt("nil(1,#);", 1);
        Bench.failsAt("nil(1 #2);", 1);
    }

    /** ""{" [ name "=" value { "," name "=" value } ] "}"": none, one, many */
    static void section1RowsOfSlots() {
        Bench.loads("object{}; object{a=1}; object{a=1,b=2,c=3};");
        Bench.failsAt("object{#,};", 1);
        Bench.failsAt("object{a=1,#};", 1);
        Bench.failsAt("object{a=1 #b=2};", 1);
        Bench.failsAt("object{a#};", 1);
        Bench.failsAt("object{#1=1};", 1);
    }

    /** "test = sum [ ( "<" | .. ) sum ]": one comparison at most; the others as often as one likes */
    static void section1OneComparison() {
        Bench.loads("1<2;1+2+3+4;1*2*3*4;1 and 2 and 3;1 or 2 or 3;not not 1;- - 1;weak next weak nil;");
        for (String sign : new String[] {"<", ">", "<=", ">=", "==", "!="}) {
            Bench.failsAt("1" + sign + "2#<3;", 1);
            Bench.failsAt("1<2#" + sign + "3;", 1);
        }
    }

    /** "value [ "=" value ] ";"": one = at most */
    static void section1OneAssignment() {
        Bench.loads("var a=1; a=2; a;");
        Bench.failsAt("var a=1; a=2#=3;", 1);
        Bench.failsAt("var a=1#=2;", 1);
        Bench.failsAt("print 1#=2;", 1);
    }

    // ---- section 1: depth

    /** Nests a text this many times: what opens it, what stands within, what closes it. */
    private static String nested(int count, String open, String within, String close) {
        return Bench.times(open, count) + within + Bench.times(close, count);
    }

    /**
     * What makes a text 1 deeper, at the mark #, can stand 12 times, and a ( behind 11 of them. Statements or values
     * can stand within.
     */
    private static void deepest(String open, String close, boolean holdsStatements) {
        String plain = open.replace("#", "");
        String tail = holdsStatements ? "" : ";";
        String one = holdsStatements ? "1;" : "1";
        String deeper = holdsStatements ? "(1);" : "(1)";
        Bench.loads(nested(12, plain, one, close) + tail);
        Bench.fails(nested(13, plain, one, close) + tail, 1, 12 * plain.length() + open.indexOf('#'));
        Bench.loads(nested(11, plain, deeper, close) + tail);
        Bench.fails(nested(12, plain, deeper, close) + tail, 1, 12 * plain.length());
    }

    /** "1 greater between a ( and its )", "at most 12"; of error 1: "the ( .. behind which the depth would be 13" */
    static void section1DepthOfParentheses() {
        deepest("#(", ")", false);
        deepest("nil#(", ")", false);
        deepest("nil#(1,", ")", false);
        deepest("nil.a#(1,2,", ",3)", false);
    }

    /** "between a ( and its )": those of inputs, too */
    static void section1DepthOfInputs() {
        Bench.loads(nested(11, "if 1{", "def f(a){}", "}"));
        Bench.failsAt(nested(12, "if 1{", "def f#(a){}", "}"), 1);
        Bench.loads(nested(11, "(", "fun(a){}", ")") + ";");
        Bench.failsAt(nested(12, "(", "fun#(a){}", ")") + ";", 1);
    }

    /** "a { and its }"; of error 1: "the .. { .. behind which the depth would be 13" */
    static void section1DepthOfBlocks() {
        deepest("if 1 #{", "}", true);
        deepest("while 1 #{", "}", true);
        deepest("for i in 1 #{", "}", true);
        deepest("try #{", "}finally{}", true);
        deepest("try #{", "}catch e{}", true);
        deepest("def f#(){", "}", true);
        deepest("fun#(){", "};", true);
    }

    /** Blocks behind else, catch and finally are as deep as those ahead of them. */
    static void section1DepthOfBlocksBehind() {
        for (String open : new String[] {"if 1{}else{", "try{}catch e{", "try{}finally{"}) {
            Bench.loads(nested(12, open, "1;", "}"));
            Bench.loads(nested(11, open, "(1);", "}"));
            Bench.failsAt(nested(12, open, "#(1);", "}"), 1);
        }
    }

    /** "a { and its }": those of objects, too */
    static void section1DepthOfBraces() {
        deepest("object #{a=", "}", false);
        deepest("object #{a=1,b=", ",c=1}", false);
        deepest("object like nil #{a=", "}", false);
    }

    /** "behind a not .. for what it turns"; of error 1: "the .. not .. behind which the depth would be 13" */
    static void section1DepthBehindNot() {
        deepest("#not ", "", false);
    }

    /** "behind a .. - .. in front (of a value)" */
    static void section1DepthBehindMinus() {
        deepest("#- ", "", false);
        // A - between two values makes nothing deeper, but those in front of the right one do.
        Bench.loads(Bench.times("1-", 100) + "1;");
        Bench.loads(Bench.times("1-", 13) + Bench.times("-", 12) + "1;");
        Bench.failsAt(Bench.times("1-", 13) + Bench.times("-", 12) + "#-1;", 1);
    }

    /** "behind a .. weak" */
    static void section1DepthBehindWeak() {
        deepest("#weak ", "", false);
    }

    /** "behind a .. next" */
    static void section1DepthBehindNext() {
        deepest("#next ", "", false);
    }

    /** "It is 0 at the beginning, and 1 greater between a ( and its )": behind its ) it is what it was */
    static void section1DepthEndsWithWhatMadeIt() {
        Bench.loads(nested(11, "(", "(1)+(2)+(3)", ")") + "+" + nested(12, "(", "1", ")") + ";");
        Bench.loads(nested(11, "if 1{", "if 1{}if 1{}else{}1;(1);", "}") + nested(12, "if 1{", "1;", "}"));
        Bench.loads(nested(11, "(", "object{a=1,b=2}.c(3).d(4)", ")") + ";");
        Bench.loads(nested(11, "(", "fun(a){1;}(2)", ")") + ";");
        Bench.loads(Bench.times("not ", 12) + "1;" + Bench.times("not ", 12) + "1;");
        Bench.loads(Bench.times("- ", 12) + "1-" + Bench.times("- ", 12) + "1;");
        Bench.loads(Bench.times("not ", 12) + "1 and " + Bench.times("not ", 12) + "1;");
    }

    /** "for what it turns": a not turns a comparison, the others turn no more than a call */
    static void section1DepthOfWhatIsTurned() {
        Bench.loads(nested(10, "(", "not 1<(2)", ")") + ";");
        Bench.failsAt(nested(11, "(", "not 1<#(2)", ")") + ";", 1);
        Bench.loads(nested(11, "(", "not 1 and (2)", ")") + ";");
        Bench.loads(nested(11, "(", "- 1*(2)", ")") + ";");
        Bench.failsAt(nested(11, "(", "- nil#(2)", ")") + ";", 1);
        Bench.failsAt(nested(11, "(", "- nil.a#(2)", ")") + ";", 1);
    }

    /** like, ., and what stands side by side make nothing deeper */
    static void section1WhatMakesNothingDeeper() {
        Bench.loads(nested(100, "object like ", "nil", "{}") + ";");
        Bench.loads(nested(11, "(", nested(50, "object like ", "nil", "{}"), ")") + ";");
        Bench.failsAt(nested(12, "(", nested(50, "object like ", "nil", "") + "#{}" + Bench.times("{}", 49), ")") + ";", 1);
        Bench.loads("nil" + Bench.times(".a", 100) + Bench.times("()", 100) + ";");
    }

    // ---- section 1: functions, variables, words

    /** "they are numbered from 0 in the order in which these words stand" */
    static void section1FunctionsFrom0() {
        EmberScript x = Bench.with("def a(b){fun(){}; def c(d,e,f){}} fun(g,h){};");
        Bench.is("functions", x.functions(), 4);
        Bench.is("the outer one", x.inputsOf(0), 1);
        Bench.is("the first within it", x.inputsOf(1), 0);
        Bench.is("the second within it", x.inputsOf(2), 3);
        Bench.is("the one behind it", x.inputsOf(3), 2);
    }

    /** "All that stands in its inputs and its block, and in no function within it, is its own" */
    static void section1WhatIsAFunctionsOwn() {
        EmberScript x = Bench.with("var a=1; def f(b,c){var d=1; def g(e){yield 1; var h=2; for i in 3{}} fun(j){};} var k=1;");
        Bench.is("variables: a, f, k", x.variables(), 3);
        Bench.is("variablesOf(0): b, c, d, g", x.variablesOf(0), 4);
        Bench.is("variablesOf(1): e, h, i", x.variablesOf(1), 3);
        Bench.is("variablesOf(2): j", x.variablesOf(2), 1);
        Bench.is("isGenerator(0)", x.isGenerator(0), false);
        Bench.is("isGenerator(1)", x.isGenerator(1), true);
    }

    /** "for and catch declare nothing, if the same function (or the script) has declared the name ahead of them" */
    static void section1ForAndCatchDeclareOnce() {
        Bench.is("for, ahead", Bench.with("var a=1; for a in 1{}").variables(), 1);
        Bench.is("for, not ahead", Bench.with("var b=1; for a in 1{}").variables(), 2);
        Bench.is("for, twice", Bench.with("for a in 1{} for a in 2{}").variables(), 1);
        Bench.is("catch, ahead", Bench.with("def a(){} try{}catch a{}").variables(), 1);
        Bench.is("catch, not ahead", Bench.with("def b(){} try{}catch a{}").variables(), 2);
        Bench.is("catch behind for", Bench.with("for a in 1{} try{}catch a{}").variables(), 1);
        EmberScript x = Bench.with("var a=1; def f(){for a in 1{} try{}catch a{}} def g(a){for a in 1{}}");
        Bench.is("another function's is another one", x.variablesOf(0), 1);
        Bench.is("an input is ahead", x.variablesOf(1), 1);
        Bench.failsAt("for a in 1{} var #a=1;", 3);
        Bench.failsAt("try{}catch a{} def #a(){}", 3);
    }

    /** "numbered from 0 in the order in which they are declared" */
    static void section1VariablesFrom0() {
        EmberScript x = Bench.done("try{throw 40;}catch c{} for b in 31{} var a=20; def d(){}");
        Bench.is("the first", x.numberOf(0), 40);
        Bench.is("the second", x.numberOf(1), 30);
        Bench.is("the third", x.numberOf(2), 20);
        Bench.is("the fourth", x.kindOf(3), 5);
        Bench.is("variables", x.variables(), 4);
    }

    /** "if that declares it anywhere": also behind the name */
    static void section1NamesDeclaredBehind() {
        Bench.prints("var a=1; def f(){print a; var a=2; print a;} f(); print a;", "nil 2 1");
        Bench.prints("var a=1; def f(){print a; if nil{for a in 1{}}} f();", "nil");
        Bench.prints("print a; var a=1;", "nil");
    }

    /** "otherwise of the function round that one; and so on; in the end of the script" */
    static void section1NamesOfTheFunctionsRound() {
        Bench.prints("var a=1; def f(){var a=2; return fun(){return fun(){return a;};};} print f()()();", "2");
        Bench.prints("var a=1; def f(){return fun(){return fun(){return a;};};} print f()()();", "1");
        Bench.prints("var a=1; def f(){return fun(){var a=3; return fun(){return a;};};} print f()()();", "3");
        String open = Bench.times("return fun(){", 11);
        Bench.prints("var a=7; def f(){" + open + "return a;" + Bench.times("};", 11) + "} print f" + Bench.times("()", 12) + ";", "7");
        Bench.prints("def f(){var a=7;" + open + "return a;" + Bench.times("};", 11) + "} print f" + Bench.times("()", 12) + ";", "7");
        Bench.prints("def f(a){" + open + "a=a+1;return a;" + Bench.times("};", 11) + "} print f(7)" + Bench.times("()", 11) + ";", "8");
    }

    /** "numbered from 0: type, zero, slot, args, deep, full, done, busy; then all others" */
    static void section1WordsFrom0() {
        EmberScript x = Bench.done("print 'type; print 'zero; print 'slot; print 'args; print 'deep; print 'full; print 'done; print 'busy; print 'other;");
        for (int word = 0; word <= 8; word++) {
            Bench.is("number of word " + word, x.numberPrinted(8 - word), word);
        }
        Bench.is("words", x.words(), 9);
    }

    /** "in a symbol, behind a ., or in front of the = in an object's braces, in the order in which they first stand so" */
    static void section1WordsInTheirOrder() {
        Bench.prints("try{nil.m;}catch e{} print 'd; try{nil.n();}catch e{} object{o='p, q=1}; print 'm; print 'n; print 'o; print 'p; print 'q; print 'd;",
                "'9 '8 '10 '11 '12 '13 '9");
        Bench.is("other names are no words", Bench.with("var a=1; def f(b){for c in 1{}} try{}catch d{} a=b1; var b1=2;").words(), 8);
    }

    // ---- section 1: error 1

    /** "the token that would be the 501st (the end of the tape not counted)" */
    static void section1Error1Token501() {
        Bench.loads(Bench.times("1;", 250));
        Bench.loads(Bench.times("1;", 250) + " \n ");
        Bench.loads(Bench.times("1;", 248) + "1+1;");
        Bench.failsAt(Bench.times("1;", 250) + "#1;", 1);
        Bench.failsAt(Bench.times("1;", 250) + " \n#1;", 1);
        Bench.failsAt(Bench.times("1;", 248) + "1+2+#3;", 1);
        Bench.failsAt(Bench.times("1;", 250) + "#A", 1);
        Bench.failsAt(Bench.times("1;", 249) + "1 #A;", 1);
        Bench.failsAt(Bench.times("1;", 249) + "1#", 1);
    }

    /** "the end of the tape (at its length)" */
    static void section1Error1EndOfTheTape() {
        Bench.failsAt("print 1#", 1);
        Bench.failsAt("print 1 \n #", 1);
        Bench.failsAt("if 1{#", 1);
        Bench.failsAt("print #", 1);
        EmberScript x = new EmberScript();
        feedBlanks(x, 99);
        x.feed(0x20202020, 0x20202020, 0x20202020, 0x20202020, 0x20202031);
        Bench.is("load", x.load(), 1);
        Bench.is("the end of a full tape", x.errorAt(), 2000);
    }

    /** "The position is that of its first byte." */
    static void section1Error1AtTheFirstByte() {
        Bench.failsAt("print   \n#return;", 1);
        Bench.failsAt("print #>=1;", 1);
        Bench.failsAt("print 1 #123456;", 1);
        Bench.failsAt("print 1 #'abc;", 1);
        Bench.failsAt("#else{}", 1);
    }

    /** "The first token with which the tokens so far are not the beginning of a script" */
    static void section1Error1TheFirst() {
        Bench.failsAt("print #; 'abcdefghijk;", 1);
        Bench.failsAt("print 1 #2 3 A;", 1);
        Bench.failsAt("print #'abcdefghijk ;;", 1);
    }

    /** "Only if there is no error 1, tokens are looked at from left to right" */
    static void section1Error1AheadOfAllOthers() {
        Bench.failsAt("a; var b=1; var b=1; return; fun(){}; #]", 1);
        Bench.failsAt("break; print 1#", 1);
        Bench.failsAt(Bench.times("fun(){};", 21) + "#)", 1);
    }

    // ---- section 1: errors 2 to 5

    /** "the first error is told, at its token" */
    static void section1TheFirstErrorIsTold() {
        Bench.failsAt("#break; a;", 4);
        Bench.failsAt("#a; break;", 2);
        Bench.failsAt("var b=1; var #b=1; a; break;", 3);
        Bench.failsAt("def f(){#return 1; a; yield 1;}", 4);
        Bench.failsAt("def f(){#a; return 1; yield 1;}", 2);
        Bench.failsAt("(#a)=1;", 2);
        Bench.failsAt("(1)#=a;", 4);
        Bench.failsAt(Bench.times("fun(){};", 20) + "#fun(){a;};", 5);
        Bench.failsAt("#a;" + Bench.times("fun(){};", 21), 2);
    }

    /** "of errors at one token the one with the smallest number" */
    static void section1TheSmallestErrorAtOneToken() {
        Bench.failsAt("nil(1,2,3,4,5,6,#a);", 2);
        Bench.failsAt("object{a=1,b=1,c=1,d=1,e=1,f=1,g=1,h=1,#a=1};", 3);
        Bench.failsAt(variables(16) + "var #v0=1;", 3);
    }

    /** Error 2: "a name that is a first, for which there is no variable" */
    static void section1Error2() {
        Bench.failsAt("print #a;", 2);
        Bench.failsAt("#a=1;", 2);
        Bench.failsAt("#a.b=1;", 2);
        Bench.failsAt("nil(#a);", 2);
        Bench.failsAt("object{a=#a};", 2);
        Bench.failsAt("object like #a{};", 2);
        Bench.failsAt("for a in 1{} print #b;", 2);
        Bench.failsAt("def f(a){} print #a;", 2);
        Bench.failsAt("def f(){var a=1;} def g(){#a;}", 2);
        Bench.failsAt("def f(){def g(){var a=1;} #a;}", 2);
        Bench.loads("def f(){def g(){a;} var a=1;}");
        Bench.loads("nil.a; 'a; object{a=1};");
    }

    /** Error 3: "the name behind a var or def, or in inputs, that the same function (or the script) has declared ahead of it" */
    static void section1Error3Names() {
        Bench.failsAt("var a=1; var #a=1;", 3);
        Bench.failsAt("var a=1; def #a(){}", 3);
        Bench.failsAt("def a(){} var #a=1;", 3);
        Bench.failsAt("def a(){} def #a(){}", 3);
        Bench.failsAt("fun(a,#a){};", 3);
        Bench.failsAt("fun(a,b,#a){};", 3);
        Bench.failsAt("def f(a){var #a=1;}", 3);
        Bench.failsAt("def f(a){def #a(){}}", 3);
        Bench.failsAt("for a in 1{} var #a=1;", 3);
        Bench.loads("var a=1; def f(a){} def g(){var a=1; def f(){var g=1;}} fun(a){};");
    }

    /** Error 3: "the name of a slot that stands in the same braces ahead of it" */
    static void section1Error3Slots() {
        Bench.failsAt("object{a=1,#a=1};", 3);
        Bench.failsAt("object{a=1,b=1,c=1,#a=1};", 3);
        Bench.failsAt("object{a=object{a=1},#a=1};", 3);
        Bench.failsAt("object{a=object{b=1,#b=1}};", 3);
        Bench.loads("object{a=object{a=1}}; object like object{a=1}{a=1}; object{a=1};");
    }

    /** Error 4: "a return or yield that is no function's own" */
    static void section1Error4ReturnOutside() {
        Bench.failsAt("#return;", 4);
        Bench.failsAt("#return 1;", 4);
        Bench.failsAt("#yield 1;", 4);
        Bench.failsAt("fun(){}; if 1{while 1{#return;}}", 4);
        Bench.loads("fun(){return;}; fun(){yield 1;};");
    }

    /** Error 4: "a return with a value that is the own of a function that a yield is the own of, too" */
    static void section1Error4ReturnInAGenerator() {
        Bench.failsAt("fun(){yield 1; #return 2;};", 4);
        Bench.failsAt("fun(){#return 2; yield 1;};", 4);
        Bench.failsAt("fun(){if 1{#return nil;} while 1{yield 1;}};", 4);
        Bench.loads("fun(){yield 1; return;};");
        Bench.loads("fun(){yield fun(){return 1;};};");
        Bench.loads("fun(){return fun(){yield 1;};};");
    }

    /** Error 4: "a break or continue that is not in the block of a while or for which is the own of the same function" */
    static void section1Error4BreakOutside() {
        for (String leave : new String[] {"break;", "continue;"}) {
            Bench.failsAt("#" + leave, 4);
            Bench.failsAt("while 1{} #" + leave, 4);
            Bench.failsAt("for i in 1{} #" + leave, 4);
            Bench.failsAt("while 1{def f(){#" + leave + "}}", 4);
            Bench.failsAt("while fun(){#" + leave + "}{}", 4);
            Bench.failsAt("for i in fun(){#" + leave + "}{}", 4);
            Bench.failsAt("fun(){if 1{#" + leave + "}};", 4);
            Bench.loads("while 1{" + leave + "} for i in 1{" + leave + "} fun(){while 1{if 1{" + leave + "}}};");
            Bench.loads("while 1{fun(){}; " + leave + "} while 1{while 1{} " + leave + "}");
            Bench.loads("while 1{try{" + leave + "}catch e{" + leave + "}finally{" + leave + "}}");
        }
    }

    /** Error 4: "a = of a statement (not of var) in front of which there is anything else than a name alone, or a call that ends .." */
    static void section1Error4Assignment() {
        String[] wrong = {"1", "'a", "nil", "true", "self", "(v)", "v()", "v.a()", "v.a(1)", "(v.a)", "- v", "- v.a", "not v", "not v.a",
            "weak v.a", "next v.a", "v+v", "1+v.a", "v.a+v.a", "v*v.a", "v<v.a", "v==v", "v and v.a", "v or v", "fun(){}", "object{}",
            "object like v.a{}"};
        for (String left : wrong) {
            Bench.failsAt("var v=1; " + left + "#=2;", 4);
        }
        String[] right = {"v", "v.a", "v.a.b", "v().a", "v.a().b", "(v).a", "(1+v).a", "self.a", "nil.a", "1 .a", "'a.a", "fun(){}.a", "object{}.a",
            "object like v.a{}.b"};
        for (String left : right) {
            Bench.loads("var v=1; " + left + "=2;");
        }
    }

    private static String variables(int count) {
        StringBuilder text = new StringBuilder();
        for (int n = 0; n < count; n++) {
            text.append("var v").append(n).append("=1;");
        }
        return text.toString();
    }

    private static String symbols(int count) {
        StringBuilder text = new StringBuilder();
        for (int n = 0; n < count; n++) {
            text.append("'s").append(n).append(';');
        }
        return text.toString();
    }

    /** Error 5: "the def or fun of the 21st function" */
    static void section1Error5Function21() {
        String many = Bench.times("fun(){};", 19);
        Bench.loads(many + "fun(){};");
        Bench.loads(many + "def f(){}");
        Bench.failsAt(many + "def f(){}#fun(){};", 5);
        Bench.failsAt(many + "fun(){};#def f(){}", 5);
        Bench.failsAt(many + "def f(){#fun(){};}", 5);
    }

    /** Error 5: "the name that declares the 11th variable of a function" */
    static void section1Error5Variable11() {
        Bench.loads("def f(a,b,c,d,e,f,g,h,i,j){}");
        Bench.failsAt("def f(a,b,c,d,e,f,g,h,i,j,#k){}", 5);
        Bench.loads("fun(){" + variables(10) + "};");
        Bench.failsAt("fun(){" + variables(10) + "var #k=1;};", 5);
        Bench.failsAt("fun(){" + variables(10) + "def #k(){}};", 5);
        Bench.failsAt("fun(){" + variables(10) + "for #k in 1{}};", 5);
        Bench.failsAt("fun(){" + variables(10) + "try{}catch #k{}};", 5);
        Bench.loads("fun(){" + variables(10) + "for v0 in 1{} try{}catch v9{} fun(a){};};");
        Bench.failsAt("fun(a,b){" + variables(8) + "var #k=1;};", 5);
    }

    /** Error 5: "or the 17th of the script" */
    static void section1Error5Variable17() {
        Bench.loads(variables(16));
        Bench.loads(variables(15) + "for k in 1{}");
        Bench.failsAt(variables(16) + "var #k=1;", 5);
        Bench.failsAt(variables(16) + "def #k(){}", 5);
        Bench.failsAt(variables(16) + "for #k in 1{}", 5);
        Bench.failsAt(variables(16) + "try{}catch #k{}", 5);
        Bench.loads(variables(16) + "for v0 in 1{} try{}catch v15{} fun(a,b){var c=1;};");
    }

    /** Error 5: "the symbol or name with the 33rd word" */
    static void section1Error5Word33() {
        Bench.loads(symbols(24));
        Bench.is("words", Bench.with(symbols(24)).words(), 32);
        Bench.loads(symbols(23) + "nil.k;");
        Bench.loads(symbols(23) + "object{k=1};");
        Bench.failsAt(symbols(24) + "#'k;", 5);
        Bench.failsAt(symbols(24) + "nil.#k;", 5);
        Bench.failsAt(symbols(24) + "object{#k=1};", 5);
        Bench.loads(symbols(24) + "'s0; nil.s23; object{type=1,busy=2};");
    }

    /** Error 5: "the 9th name in an object's braces" */
    static void section1Error5Slot9() {
        Bench.loads("object{a=1,b=1,c=1,d=1,e=1,f=1,g=1,h=1};");
        Bench.failsAt("object{a=1,b=1,c=1,d=1,e=1,f=1,g=1,h=1,#i=1};", 5);
        Bench.loads("object{a=object{a=1,b=1,c=1,d=1,e=1,f=1,g=1,h=1},b=1};");
        Bench.failsAt("object{a=object{b=1,c=1},b=1,c=1,d=1,e=1,f=1,g=1,h=1,#i=1};", 5);
        Bench.loads("object like object{a=1,b=1,c=1,d=1,e=1,f=1,g=1,h=1}{i=1};");
    }

    /** Error 5: "the first token of the 7th value in the ( ) of a call" */
    static void section1Error5Value7() {
        Bench.loads("nil(1,2,3,4,5,6);");
        Bench.loads("nil.a(1,2,3,4,5,6);");
        Bench.failsAt("nil(1,2,3,4,5,6,#7);", 5);
        Bench.failsAt("nil.a(1,2,3,4,5,6,#-7);", 5);
        Bench.failsAt("nil(1,2,3,4,5,6,#(7+8));", 5);
        Bench.loads("nil(1,2,3,4,5,nil(1,2,3,4,5,6)); nil(1,2,3)(4,5,6);");
        Bench.failsAt("nil(1,nil(2,3,4,5,6),3,4,5,6,#7);", 5);
    }

    // ---- promises 1 to 5

    private static int feedBlanks(EmberScript x, int times) {
        int length = 0;
        for (int n = 0; n < times; n++) {
            length = x.feed(0x20202020, 0x20202020, 0x20202020, 0x20202020, 0x20202020);
        }
        return length;
    }

    /** "a machine with a script without statements, which has ended" */
    static void promise1NewObject() {
        EmberScript x = new EmberScript();
        Bench.is("errorAt", x.errorAt(), -1);
        Bench.is("state", x.state(), 1);
        Bench.is("steps, frames, loops", x.steps() + x.frames() + x.loops(), 0);
        Bench.is("place", x.place(), -1);
        Bench.is("functionNow", x.functionNow(), -1);
        Bench.is("isGuarded", x.isGuarded(), false);
        Bench.is("collections, freed", x.collections() + x.freed(), 0);
        Bench.is("functions, variables", x.functions() + x.variables(), 0);
        Bench.is("words", x.words(), 8);
        Bench.is("printed, things, garbage", x.printed() + x.things() + x.garbage(), 0);
        Bench.isShare("share", x.share(), 0.0);
        Bench.is("stepsToEnd, printedIn, thingsIn", x.stepsToEnd(200) + x.printedIn(200) + x.thingsIn(200), 0);
        Bench.is("runsToPrint", x.runsToPrint(), -1);
        Bench.is("stateIfInterrupted(7)", x.stateIfInterrupted(7), -1);
        long d = 2411;
        for (int v : new int[] {1, 0, 0, -1, -1, 0, 0, 0, 0, 0, 8, 0, 0, 0}) {
            d = d * 31 + v;
        }
        Bench.is("digest", x.digest(), d);
        Bench.refusesState("run", x, () -> x.run(1));
        Bench.refusesState("interrupt", x, () -> x.interrupt(0));
        Bench.refusesState("kindThrown", x, () -> x.kindThrown());
        Bench.refusesIndex("setNumber", x, () -> x.setNumber(0, 0));
        Bench.refusesIndex("inputsOf", x, () -> x.inputsOf(0));
        Bench.refusesIndex("kindPrinted", x, () -> x.kindPrinted(0));
        Bench.refusesIndex("kindOfThing", x, () -> x.kindOfThing(0));
    }

    /** "the four bytes of each number, the highest one first" */
    static void promise2HighestByteFirst() {
        EmberScript x = new EmberScript();
        Bench.is("feed", x.feed('p' << 24 | 'r' << 16 | 'i' << 8 | 'n', 't' << 24 | ' ' << 16 | '1' << 8 | '2',
                '3' << 24 | '4' << 16 | '5' << 8 | ';', 'p' << 24 | 'r' << 16 | 'i' << 8 | 'n', 't' << 24 | ' ' << 16 | '7' << 8 | ';'), 20);
        Bench.is("load", x.load(), 0);
        x.run(200);
        Bench.is("the latest", x.numberPrinted(0), 7);
        Bench.is("the one ahead", x.numberPrinted(1), 12345);
        // A byte above 127 in front makes a number negative, and is a byte like any other.
        EmberScript y = new EmberScript();
        Bench.is("feed", y.feed(0x20202020, 0xFF202020, -1, Integer.MIN_VALUE, Integer.MAX_VALUE), 20);
        Bench.is("load", y.load(), 1);
        Bench.is("errorAt", y.errorAt(), 4);
    }

    /** "Throws IllegalStateException if there would be more than 2000" */
    static void promise2MoreThan2000() {
        EmberScript x = new EmberScript();
        Bench.is("feed to 1980", feedBlanks(x, 99), 1980);
        Bench.is("feed to 2000", feedBlanks(x, 1), 2000);
        Bench.refusesState("feed of 2000", x, () -> x.feed(0, 0, 0, 0, 0));
        Bench.is("trim to 1981", x.trim(1981), 1981);
        Bench.refusesState("feed of 1981", x, () -> x.feed(0, 0, 0, 0, 0));
        Bench.refusesArgument("trim(1982) behind it", x, () -> x.trim(1982));
        Bench.is("trim to 1980", x.trim(1980), 1980);
        Bench.is("feed of 1980", feedBlanks(x, 1), 2000);
        Bench.is("nothing refused was appended", x.load(), 0);
    }

    /** "Throws IllegalArgumentException if n is not 0 to the number of bytes of the tape" */
    static void promise3NotOnTheTape() {
        EmberScript x = new EmberScript();
        Bench.is("trim(0) of nothing", x.trim(0), 0);
        Bench.refusesArgument("trim(1) of nothing", x, () -> x.trim(1));
        Bench.refusesArgument("trim(-1) of nothing", x, () -> x.trim(-1));
        feedBlanks(x, 1);
        Bench.refusesArgument("trim(21)", x, () -> x.trim(21));
        Bench.refusesArgument("trim(-1)", x, () -> x.trim(-1));
        Bench.refusesArgument("trim of the least number", x, () -> x.trim(Integer.MIN_VALUE));
        Bench.refusesArgument("trim of the greatest number", x, () -> x.trim(Integer.MAX_VALUE));
        Bench.is("trim(20)", x.trim(20), 20);
        Bench.is("trim(19)", x.trim(19), 19);
        Bench.refusesArgument("trim(20) of 19", x, () -> x.trim(20));
        Bench.is("trim(1)", x.trim(1), 1);
        Bench.is("trim(0)", x.trim(0), 0);
        Bench.refusesArgument("trim(1) of 0", x, () -> x.trim(1));
    }

    /** "Shortens the tape to its first bytes." */
    static void promise3FirstBytesAreKept() {
        EmberScript x = new EmberScript();
        Bench.feed(x, "print 12;");
        Bench.is("trim", x.trim(7), 7);
        Bench.is("feed behind it", x.feed(0x3b202020, 0x20202020, 0x20202020, 0x20202020, 0x20202020), 27);
        Bench.is("load", x.load(), 0);
        x.run(1);
        Bench.is("what was cut off is gone", x.numberPrinted(0), 1);
        // What was cut off is no part of the last token, either.
        cut("print abcdefghij", "k;", 16);
        cut("print 'abcdefghij", "k;", 17);
        cut("print 123456", "7;", 12);
        cut("print 1!", "=2;", 7);
        cut("var a=", "=2;", 6);
        cut("print '", "a;", 6);
        cut("print 1", ";", 7);
    }

    /** Compares the place of the error 1 of a text whose end is cut off. */
    private static void cut(String text, String end, int place) {
        EmberScript x = new EmberScript();
        Bench.feed(x, text + end);
        x.trim(text.length());
        Bench.is("load of " + text, x.load(), 1);
        Bench.is("errorAt of " + text, x.errorAt(), place);
    }

    /** "all begins anew, without things and prints, with 0 steps, collections and freed things" */
    static void promise4AllBeginsAnew() {
        EmberScript x = Bench.with("var a = object{}; object{}; collect; print a; print 'w; fun(){}; throw 3;");
        x.run(200);
        Bench.is("state ahead", x.state(), 2);
        Bench.is("load", Bench.load(x, "print 1; var b = 2;"), 0);
        EmberScript y = Bench.with("print 1; var b = 2;");
        Bench.is("digest", x.digest(), y.digest());
        Bench.is("steps", x.steps(), 0);
        Bench.is("collections", x.collections(), 0);
        Bench.is("freed", x.freed(), 0);
        Bench.is("things", x.things(), 0);
        Bench.is("printed", x.printed(), 0);
        Bench.is("state", x.state(), 0);
        Bench.is("kind of the variable", x.kindOf(0), 0);
        Bench.refusesState("kindThrown", x, () -> x.kindThrown());
        Bench.refusesIndex("kindPrinted", x, () -> x.kindPrinted(0));
        Bench.refusesIndex("kindOfThing", x, () -> x.kindOfThing(0));
    }

    /** The same, in the middle of a script: with frames, and all that they hold. */
    static void promise4AllBeginsAnewInFrames() {
        EmberScript x = Bench.at("def f(a){try{#1;}catch e{}} for i in 3{object{} == f(object{});}");
        Bench.is("load", Bench.load(x, "object{}; 1;"), 0);
        Bench.is("frames", x.frames(), 0);
        Bench.is("loops", x.loops(), 0);
        Bench.is("isGuarded", x.isGuarded(), false);
        Bench.is("place", x.place(), 0);
        x.run(1);
        Bench.is("garbage", x.garbage(), 1);
        Bench.is("run", x.run(200), 1);
        Bench.is("state", x.state(), 1);
    }

    /** "in the place of the one before": however many scripts were read before, nothing of them is left */
    static void promise4InThePlaceOfTheOneBefore() {
        EmberScript x = new EmberScript();
        for (int n = 0; n < 6; n++) {
            Bench.is("load with all", Bench.load(x, "def f(a,b,c,d,e,f,g,h,i,j){yield 'k;}" + Bench.times("fun(){};", 19)), 0);
            Bench.is("load with little", Bench.load(x, "var a=7; var b=8; def f(n){var c=n; return fun(){return c;};} print f(1)()*100+f(2)()*10+a;"), 0);
            Bench.is("functions", x.functions(), 2);
            Bench.is("inputsOf(0)", x.inputsOf(0), 1);
            Bench.is("variablesOf(0)", x.variablesOf(0), 2);
            Bench.is("isGenerator(0)", x.isGenerator(0), false);
            Bench.is("inputsOf(1)", x.inputsOf(1), 0);
            Bench.is("variablesOf(1)", x.variablesOf(1), 0);
            Bench.is("variables", x.variables(), 3);
            Bench.is("words", x.words(), 8);
            x.run(200);
            Bench.is("state", x.state(), 1);
            Bench.is("numberPrinted", x.numberPrinted(0), 127);
            Bench.is("numberOf(0)", x.numberOf(0), 7);
            Bench.is("numberOf(1)", x.numberOf(1), 8);
        }
    }

    /** An error of one text is none of the next. */
    static void promise4ErrorsOfTheOneBefore() {
        EmberScript x = new EmberScript();
        for (String wrong : new String[] {"print 1", "print a;", "var b=1; var b=1;", "1; 1; 1; break;", "nil(1,2,3,4,5,6,7);"}) {
            Bench.is("load of an error", Bench.load(x, wrong) > 0, true);
            Bench.is("load without one", Bench.load(x, "var a=1; while a{break;} print a;"), 0);
            Bench.is("errorAt", x.errorAt(), -1);
            Bench.is("load of an error", Bench.load(x, wrong) > 0, true);
            Bench.is("load of another one", Bench.load(x, "1; 2; 3; print nil(1,2,3,4,5,6,7,8);"), 5);
            Bench.is("its place", x.errorAt(), 31);
        }
    }

    /** "the machine stands ahead of the first statement (without one the script has ended)" */
    static void promise4WithoutStatements() {
        EmberScript x = Bench.with(" 1;");
        Bench.is("state", x.state(), 0);
        Bench.is("place", x.place(), 1);
        Bench.is("load of nothing", x.load(), 0);
        Bench.is("state", x.state(), 1);
        Bench.is("place", x.place(), -1);
        Bench.is("load of blanks", Bench.load(x, " \n"), 0);
        Bench.is("state", x.state(), 1);
    }

    /** "If it has an error, all stays (but the tape is empty)." */
    static void promise4WithAnError() {
        EmberScript x = Bench.at("var a=object{}; def f(){for i in 2{#print 'w;}} f();");
        x.run(2);
        for (String text : new String[] {"print", "print b;", "var b=1; var b=2;", "break;", Bench.times("fun(){};", 21)}) {
            long before = x.digest();
            Bench.is("load of an error", Bench.load(x, text) > 0, true);
            Bench.is("digest", x.digest(), before);
            Bench.refusesArgument("trim(1)", x, () -> x.trim(1));
        }
        Bench.is("functions", x.functions(), 1);
        Bench.is("it goes on", x.run(200), 2);
        Bench.is("printed", x.printed(), 2);
        Bench.is("state", x.state(), 1);
    }

    /** "Returns 0, or the error, 1 to 5." */
    static void promise4Errors() {
        Bench.fails("print 1;", 0, -1);
        Bench.failsAt("print 1#", 1);
        Bench.failsAt("print #a;", 2);
        Bench.failsAt("fun(a,#a){};", 3);
        Bench.failsAt("#return;", 4);
        Bench.failsAt("nil(1,2,3,4,5,6,#7);", 5);
    }

    /** "-1 if it had none, or there was none" */
    static void promise5NoError() {
        EmberScript x = new EmberScript();
        Bench.is("there was no load", x.errorAt(), -1);
        Bench.feed(x, "]");
        Bench.is("there was none yet", x.errorAt(), -1);
        Bench.is("load", x.load(), 1);
        Bench.is("an error at 0", x.errorAt(), 0);
        Bench.feed(x, "1;");
        Bench.is("it stays till the next load", x.errorAt(), 0);
        Bench.is("load", x.load(), 0);
        Bench.is("the latest had none", x.errorAt(), -1);
        Bench.is("load", Bench.load(x, "1;1"), 1);
        Bench.is("the latest had one", x.errorAt(), 3);
        x.run(1);
        Bench.is("it stays as the script runs", x.errorAt(), 3);
    }

    // ---- promises 19 to 23, 26

    /** "how many functions the script has" */
    static void promise19Functions() {
        Bench.is("none", Bench.with("1;").functions(), 0);
        Bench.is("one", Bench.with("fun(){};").functions(), 1);
        Bench.is("20", Bench.with(Bench.times("fun(){};", 20)).functions(), 20);
    }

    /** "Throws IndexOutOfBoundsException if there is no such function" */
    static void promise20NoSuchFunction() {
        EmberScript x = Bench.with("fun(){}; fun(a,b,c,d,e,f,g,h,i,j){};");
        Bench.is("inputsOf(0)", x.inputsOf(0), 0);
        Bench.is("inputsOf(1)", x.inputsOf(1), 10);
        Bench.refusesIndex("inputsOf(2)", x, () -> x.inputsOf(2));
        Bench.refusesIndex("inputsOf(-1)", x, () -> x.inputsOf(-1));
        EmberScript y = Bench.with(Bench.times("fun(){};", 19) + "fun(a){};");
        Bench.is("inputsOf(19)", y.inputsOf(19), 1);
        Bench.refusesIndex("inputsOf(20)", y, () -> y.inputsOf(20));
        Bench.refusesIndex("inputsOf of the least number", y, () -> y.inputsOf(Integer.MIN_VALUE));
        Bench.refusesIndex("inputsOf of the greatest number", y, () -> y.inputsOf(Integer.MAX_VALUE));
    }

    /** "Throws IndexOutOfBoundsException if there is no such function" */
    static void promise21NoSuchFunction() {
        EmberScript x = Bench.with("fun(){}; fun(a){" + variables(9) + "};");
        Bench.is("variablesOf(0)", x.variablesOf(0), 0);
        Bench.is("variablesOf(1), inputs counted", x.variablesOf(1), 10);
        Bench.refusesIndex("variablesOf(2)", x, () -> x.variablesOf(2));
        Bench.refusesIndex("variablesOf(-1)", x, () -> x.variablesOf(-1));
    }

    /** "Throws IndexOutOfBoundsException if there is no such function"; "a yield of its own" */
    static void promise22NoSuchFunction() {
        EmberScript x = Bench.with("fun(){fun(){yield 1;};};");
        Bench.is("isGenerator(0)", x.isGenerator(0), false);
        Bench.is("isGenerator(1)", x.isGenerator(1), true);
        Bench.refusesIndex("isGenerator(2)", x, () -> x.isGenerator(2));
        Bench.refusesIndex("isGenerator(-1)", x, () -> x.isGenerator(-1));
    }

    /** "how many variables the script has" */
    static void promise23Variables() {
        Bench.is("none", Bench.with("fun(a){};").variables(), 0);
        Bench.is("one", Bench.with("var a=1;").variables(), 1);
        Bench.is("16", Bench.with(variables(16)).variables(), 16);
    }

    /** "how many words there are" */
    static void promise26Words() {
        Bench.is("8 without any", Bench.with("1;").words(), 8);
        Bench.is("one of them", Bench.with("'busy;").words(), 8);
        Bench.is("another one", Bench.with("'busyx;").words(), 9);
        Bench.is("32", Bench.with(symbols(24)).words(), 32);
    }
}
