import java.util.ArrayList;
import java.util.List;

/**
 * A clock together with the calls that have been made on it, so that a second one can be brought into
 * the same state. A call is written as its name and its arguments: "addLayer 0 5 1 20"; MIN and MAX are
 * the least and the greatest int.
 */
final class Subject {
    static final int INVALID = VarveClock.INVALID_ARGUMENT;
    static final int IMPOSSIBLE = VarveClock.NOT_POSSIBLE;
    static final int LIMIT = VarveClock.LIMIT_REACHED;
    static final int NONE = VarveClock.NOT_FOUND;

    /** The document promises nothing of later calls, so no test may lean on one. */
    private static final int MOST_CALLS = 512;

    private static int checks = 0;
    private static int wrong = 0;
    private static String sentence = "";

    private final VarveClock clock = new VarveClock();
    private final List<String> changes = new ArrayList<>();
    private int calls = 0;
    private List<String> seen;

    // ---- what is told at the end

    /** Names the sentence of the document that the following checks belong to. */
    static void sentence(String words) {
        sentence = words;
    }

    static void finish() {
        System.out.println(checks + " checks, " + wrong + " wrong");
        if (wrong != 0 || checks == 0) {
            System.exit(1);
        }
    }

    private static void check(boolean isRight, String told) {
        checks++;
        if (!isRight) {
            wrong++;
            System.out.println(sentence + ": " + told);
        }
    }

    // ---- how one is made

    static Subject fresh() {
        return new Subject();
    }

    /** A core written as a text, but of any length, and made without the clock's own text. */
    static Subject core(String commands) {
        Subject made = fresh();
        List<int[]> layers = new ArrayList<>();
        List<int[]> ashes = new ArrayList<>();
        for (String command : commands.split(";")) {
            String[] words = command.split(" ");
            int kind = List.of("layer", "faint", "thick").indexOf(words[0]);
            if (kind >= 0) {
                layers.add(new int[] {number(words[1]), kind, 0});
            } else if (words[0].equals("gap")) {
                layers.get(layers.size() - 1)[2] = number(words[1]);
            } else {
                ashes.add(new int[] {layers.size(), number(words[1]), number(words[2])});
            }
        }
        for (int i = 0; i < layers.size(); i++) {
            int[] layer = layers.get(i);
            made.does("addLayer " + i + " " + layer[0] + " " + layer[1] + " " + layer[2]);
        }
        for (int[] ash : ashes) {
            made.does("addAsh " + ash[0] + " " + ash[1] + " " + ash[2]);
        }
        return made;
    }

    /** Clear layers without missing years, 1, 2, 3 .. thick. */
    static Subject clear(int layers) {
        return core(layers, "layer #");
    }

    /** As many times the same command; # stands for 1, 2, 3 .. */
    static Subject core(int layers, String command) {
        return core(times(layers, command));
    }

    static String times(int number, String command) {
        StringBuilder commands = new StringBuilder();
        for (int i = 1; i <= number; i++) {
            commands.append(command.replace("#", String.valueOf(i))).append(';');
        }
        return commands.toString();
    }

    private static Subject replay(List<String> changes) {
        Subject made = fresh();
        for (String change : changes) {
            made.answer(change);
            made.changes.add(change);
        }
        return made;
    }

    /** Another one in the same state. */
    Subject twin() {
        return replay(changes);
    }

    // ---- calls

    /** Calls that must return no error. */
    Subject does(String... several) {
        for (String call : several) {
            int got = answer(call);
            check(got >= 0, call + " answered " + got);
            remember(call);
        }
        return this;
    }

    /** A call that returns no error, and its answer. */
    Subject due(String call, int want) {
        int got = answer(call);
        check(got == want, call + " answered " + got + ", due is " + want);
        remember(call);
        return this;
    }

    /** A call that returns an error, and changes nothing. */
    Subject refused(String call, int error) {
        return asked(call, error);
    }

    /** A call that has this answer, and changes nothing. */
    Subject asked(String call, int want) {
        int got = answer(call);
        check(got == want, call + " answered " + got + ", due is " + want);
        List<String> changed = new ArrayList<>(changes);
        changed.add(call);
        checkSame("after " + call, look(), observe(changed));
        return this;
    }

    /** Every number outside a range in the place of #. */
    Subject refusedOutside(String call, int least, int most) {
        int[] outside = {least - 1, most + 1, Integer.MIN_VALUE, Integer.MAX_VALUE};
        for (int number : outside) {
            refused(call.replace("#", String.valueOf(number)), INVALID);
        }
        return this;
    }

    /** Both ends of a range in the place of #, each on a clock of its own, are in it. */
    Subject takenInside(String call, int least, int most) {
        for (int number : new int[] {least, most}) {
            String whole = call.replace("#", String.valueOf(number));
            int got = twin().answer(whole);
            check(got != INVALID, whole + " answered " + got);
        }
        return this;
    }

    Subject writes(String text) {
        for (int i = 0; i < text.length(); i++) {
            does("type " + (int) text.charAt(i));
        }
        return this;
    }

    Subject dueLayer(int layer, int thickness, int kind, int missing) {
        due("layer " + layer + " 0", thickness);
        due("layer " + layer + " 1", kind);
        return due("layer " + layer + " 2", missing);
    }

    Subject dueAsh(int ash, int place, int age, int uncertainty) {
        due("ash " + ash + " 0", place);
        due("ash " + ash + " 1", age);
        return due("ash " + ash + " 2", uncertainty);
    }

    Subject dueYears(int layer, int own, int missing) {
        due("years " + layer + " 0", own);
        return due("years " + layer + " 1", missing);
    }

    /** The same layers, ashes and settings as another one's, whatever the histories are. */
    Subject dueCoreOf(Subject other) {
        checkSame("the core", replay(other.changes).core(), replay(changes).core());
        return this;
    }

    /** All is as on another one, the history and the text too. */
    Subject dueAllOf(Subject other) {
        checkSame("all", other.look(), look());
        return this;
    }

    /** Questions need no remembering: that they change nothing is what asked() is for. */
    private void remember(String call) {
        if (call.matches("(add|remove|set|lay|undo|type|clearText).*")) {
            changes.add(call);
            seen = null;
        }
    }

    int answer(String call) {
        calls++;
        if (calls > MOST_CALLS) {
            throw new IllegalStateException("a test makes more than " + MOST_CALLS + " calls: " + sentence);
        }
        return make(clock, call);
    }

    // ---- all that can be seen of a state

    private List<String> look() {
        if (seen == null) {
            seen = observe(changes);
        }
        return seen;
    }

    /** What a clock answers after the calls; many clocks, for some looks change what they look at. */
    private static List<String> observe(List<String> changes) {
        List<String> all = new ArrayList<>(replay(changes).core());
        all.addAll(replay(changes).counts());
        all.addAll(replay(changes).text());
        int states = replay(changes).answer("count 9");
        for (int back = 1; back <= states + 1; back++) {
            Subject earlier = replay(changes);
            for (int i = 0; i < back; i++) {
                earlier.tell(all, "undo");
            }
            all.addAll(earlier.core());
        }
        return all;
    }

    private List<String> core() {
        List<String> told = new ArrayList<>();
        tellAll(told, "count #", 9);
        for (int what = 0; what <= 2; what++) {
            tellAll(told, "layer # " + what, answer("count 0"));
            tellAll(told, "ash # " + what, answer("count 1"));
        }
        tell(told, "cost");
        return told;
    }

    private List<String> counts() {
        List<String> told = new ArrayList<>();
        int layers = answer("count 0");
        int ashes = answer("count 1");
        tell(told, "count 9");
        tell(told, "cost");
        tell(told, "ways");
        tell(told, "widen");
        tellAll(told, "total #", 5);
        tellAll(told, "years # 0", layers);
        tellAll(told, "years # 1", layers);
        tellAll(told, "age #", layers + 1);
        tellAll(told, "offset #", ashes);
        tellAll(told, "without #", ashes);
        tell(told, "bound " + layers + " 9 0");
        tell(told, "bound " + layers + " 9 1");
        return told;
    }

    private List<String> text() {
        List<String> told = new ArrayList<>();
        tell(told, "fault");
        tell(told, "lay");
        told.addAll(core());
        tell(told, "type " + (int) ';');
        tell(told, "fault");
        tell(told, "clearText");
        return told;
    }

    private void tellAll(List<String> told, String call, int number) {
        for (int i = 0; i < number; i++) {
            tell(told, call.replace("#", String.valueOf(i)));
        }
    }

    private void tell(List<String> told, String call) {
        told.add(call + " answers " + answer(call));
    }

    private static void checkSame(String told, List<String> want, List<String> got) {
        String difference = want.size() == got.size() ? "" : want.size() + " answers were due, not " + got.size();
        for (int i = 0; i < want.size() && i < got.size() && difference.isEmpty(); i++) {
            difference = want.get(i).equals(got.get(i)) ? "" : got.get(i) + ", due is: " + want.get(i);
        }
        check(difference.isEmpty(), told + ": " + difference);
    }

    // ---- from words to calls

    private static int number(String word) {
        if (word.equals("MIN")) {
            return Integer.MIN_VALUE;
        }
        return word.equals("MAX") ? Integer.MAX_VALUE : Integer.parseInt(word);
    }

    private static int make(VarveClock x, String call) {
        String[] words = call.split(" ");
        int[] n = new int[words.length - 1];
        for (int i = 0; i < n.length; i++) {
            n[i] = number(words[i + 1]);
        }
        switch (words[0] + n.length) {
            case "addLayer4": return x.addLayer(n[0], n[1], n[2], n[3]);
            case "removeLayer1": return x.removeLayer(n[0]);
            case "setLayer3": return x.setLayer(n[0], n[1], n[2]);
            case "addAsh3": return x.addAsh(n[0], n[1], n[2]);
            case "removeAsh1": return x.removeAsh(n[0]);
            case "set2": return x.set(n[0], n[1]);
            case "lay0": return x.lay();
            case "undo0": return x.undo();
            case "count1": return x.count(n[0]);
            case "layer2": return x.layer(n[0], n[1]);
            case "ash2": return x.ash(n[0], n[1]);
            case "cost0": return x.cost();
            case "years2": return x.years(n[0], n[1]);
            case "age1": return x.age(n[0]);
            case "offset1": return x.offset(n[0]);
            case "total1": return x.total(n[0]);
            case "ways0": return x.ways();
            case "rate3": return x.rate(n[0], n[1], n[2]);
            case "bound3": return x.bound(n[0], n[1], n[2]);
            case "without1": return x.without(n[0]);
            case "widen0": return x.widen();
            case "costWith3": return x.costWith(n[0], n[1], n[2]);
            case "type1": return x.type(n[0]);
            case "clearText0": return x.clearText();
            case "fault0": return x.fault();
            default: throw new IllegalArgumentException("no such call: " + call);
        }
    }
}
