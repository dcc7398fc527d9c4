import java.io.IOException;
import java.nio.file.DirectoryStream;
import java.nio.file.Files;
import java.nio.file.Path;
import java.nio.file.Paths;
import java.util.List;

/** Plays the runs in src/test/recorded (or in the files named), which tools/record.py wrote with their answers. */
public final class RecordedRuns {
    private static int wrong = 0;
    private static int calls = 0;
    private static int runs = 0;

    public static void main(String[] args) throws IOException {
        if (args.length > 0) {
            for (String name : args) {
                play(Paths.get(name));
            }
        } else {
            try (DirectoryStream<Path> files = Files.newDirectoryStream(Paths.get("src/test/recorded"), "*.txt")) {
                for (Path file : files) {
                    play(file);
                }
            }
        }
        System.out.println(runs + " recorded runs, " + calls + " calls, " + wrong + " wrong answers");
        if (wrong != 0 || runs == 0) {
            System.exit(1);
        }
    }

    private static void play(Path file) throws IOException {
        List<String> lines = Files.readAllLines(file);
        EmberScript x = new EmberScript();
        String run = "";
        boolean spoilt = false;
        for (String line : lines) {
            if (line.startsWith("new ")) {
                x = new EmberScript();
                run = line;
                spoilt = false;
                runs++;
            } else if (!spoilt) {
                int arrow = line.indexOf(" -> ");
                String answer = answer(x, line.substring(0, arrow).split(" "));
                calls++;
                if (!answer.equals(line.substring(arrow + 4))) {
                    wrong++;
                    spoilt = true;
                    System.out.println(file + ", " + run + ": " + line + ", answered " + answer);
                }
            }
        }
    }

    private static String answer(EmberScript x, String[] call) {
        int a = call.length > 1 ? Integer.parseInt(call[1]) : 0;
        int b = call.length > 2 ? Integer.parseInt(call[2]) : 0;
        try {
            switch (call[0]) {
                case "feed":
                    return "" + x.feed(a, b, Integer.parseInt(call[3]), Integer.parseInt(call[4]),
                            Integer.parseInt(call[5]));
                case "trim": return "" + x.trim(a);
                case "load": return "" + x.load();
                case "errorAt": return "" + x.errorAt();
                case "run": return "" + x.run(a);
                case "interrupt": return "" + x.interrupt(a);
                case "setNumber": return "" + x.setNumber(a, b);
                case "collect": return "" + x.collect();
                case "state": return "" + x.state();
                case "steps": return "" + x.steps();
                case "frames": return "" + x.frames();
                case "place": return "" + x.place();
                case "functionNow": return "" + x.functionNow();
                case "loops": return "" + x.loops();
                case "isGuarded": return x.isGuarded() ? "1" : "0";
                case "collections": return "" + x.collections();
                case "freed": return "" + x.freed();
                case "functions": return "" + x.functions();
                case "inputsOf": return "" + x.inputsOf(a);
                case "variablesOf": return "" + x.variablesOf(a);
                case "isGenerator": return x.isGenerator(a) ? "1" : "0";
                case "variables": return "" + x.variables();
                case "kindOf": return "" + x.kindOf(a);
                case "numberOf": return "" + x.numberOf(a);
                case "words": return "" + x.words();
                case "printed": return "" + x.printed();
                case "kindPrinted": return "" + x.kindPrinted(a);
                case "numberPrinted": return "" + x.numberPrinted(a);
                case "kindThrown": return "" + x.kindThrown();
                case "numberThrown": return "" + x.numberThrown();
                case "things": return "" + x.things();
                case "isThere": return x.isThere(a) ? "1" : "0";
                case "kindOfThing": return "" + x.kindOfThing(a);
                case "functionOf": return "" + x.functionOf(a);
                case "slots": return "" + x.slots(a);
                case "wordIn": return "" + x.wordIn(a, b);
                case "kindIn": return "" + x.kindIn(a, b);
                case "numberIn": return "" + x.numberIn(a, b);
                case "parentOf": return "" + x.parentOf(a);
                case "foundIn": return "" + x.foundIn(a, b);
                case "isLike": return x.isLike(a, b) ? "1" : "0";
                case "stateOf": return "" + x.stateOf(a);
                case "refersTo": return "" + x.refersTo(a);
                case "isReached": return x.isReached(a) ? "1" : "0";
                case "garbage": return "" + x.garbage();
                case "retained": return "" + x.retained(a);
                case "distance": return "" + x.distance(a);
                case "reaches": return x.reaches(a, b) ? "1" : "0";
                case "share": return "" + x.share();
                case "stepsToEnd": return "" + x.stepsToEnd(a);
                case "printedIn": return "" + x.printedIn(a);
                case "thingsIn": return "" + x.thingsIn(a);
                case "runsToPrint": return "" + x.runsToPrint();
                case "stateIfInterrupted": return "" + x.stateIfInterrupted(a);
                case "digest": return "" + x.digest();
                default: return "no such call";
            }
        } catch (RuntimeException e) {
            return "!" + e.getClass().getSimpleName();
        }
    }
}
