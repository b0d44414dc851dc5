import java.math.BigInteger;
import java.util.ArrayDeque;
import java.util.ArrayList;
import java.util.Arrays;
import java.util.Deque;
import java.util.List;
import java.util.regex.Matcher;
import java.util.regex.Pattern;

/**
 * Long runs of calls, each answer compared with that of a slow model that is built in another way:
 * small cores by trying every count, great ones by a plain table from the top with whole counts in it.
 */
public final class ModelTest {
    private static final int RUNS = 150;
    private static final int CALLS = 511;
    private static final BigInteger MOST_WAYS = BigInteger.valueOf(1000000);

    private static int wrong = 0;
    private static long seed = 20261119L;

    public static void main(String[] args) {
        for (int run = 0; run < RUNS && wrong < 20; run++) {
            new Run(run).go();
        }
        System.out.println(wrong == 0 ? "all answers are as the model's" : wrong + " answers are not as the model's");
        if (wrong != 0) {
            System.exit(1);
        }
    }

    /** A fixed row of numbers, so that each run of the test is the same. */
    private static int pick(int bound) {
        seed = seed * 6364136223846793005L + 1442695040888963407L;
        return (int) ((seed >>> 33) % bound);
    }

    private static int around(int least, int most) {
        return least - (pick(25) == 0 ? 1 : 0) + pick(most - least + 1 + (pick(25) == 0 ? 1 : 0));
    }

    private static final class Layer {
        int[] properties;

        Layer(int... properties) {
            this.properties = properties;
        }
    }

    private static final class State {
        List<Layer> layers = new ArrayList<>();
        List<int[]> ashes = new ArrayList<>();
        int[] settings = {4, 5, 3, 2};

        State copy() {
            State copy = new State();
            for (Layer layer : layers) {
                copy.layers.add(new Layer(layer.properties.clone()));
            }
            for (int[] ash : ashes) {
                copy.ashes.add(ash.clone());
            }
            copy.settings = settings.clone();
            return copy;
        }

        void order() {
            ashes.sort((one, other) -> Integer.compare(one[0], other[0]));
        }

        boolean hasAshAt(int place) {
            for (int[] ash : ashes) {
                if (ash[0] == place) {
                    return true;
                }
            }
            return false;
        }

        /** The cost at a place, -1 if the age can't be. */
        int ashCost(int place, int age) {
            int cost = 0;
            for (int[] ash : ashes) {
                if (ash[0] == place) {
                    int off = age > ash[1] ? age - ash[1] : ash[1] - age;
                    if (off > ash[2]) {
                        return -1;
                    }
                    cost += off * settings[3];
                }
            }
            return cost;
        }

        /** All {own, missing, cost} of a layer, in the order of preference. */
        List<int[]> choices(int number) {
            int[] layer = layers.get(number).properties;
            List<int[]> all = new ArrayList<>();
            for (int missing = 0; missing <= layer[2]; missing++) {
                all.add(new int[] {1, missing, missing * settings[2]});
                if (layer[1] == 1) {
                    all.add(new int[] {0, missing, missing * settings[2] + settings[0]});
                }
                if (layer[1] == 2) {
                    all.add(new int[] {2, missing, missing * settings[2] + settings[1]});
                }
            }
            all.sort((one, other) -> compare(one, other));
            return all;
        }
    }

    private static int compare(int[] one, int[] other) {
        int byYears = Integer.compare(one[0] + one[1], other[0] + other[1]);
        return byYears != 0 ? byYears : Integer.compare(one[0], other[0]);
    }

    /** What a core's counts are, by a table from the top downward. */
    private static class Answers {
        final State state;
        /** By place and age: the best beginning: {own, missing} of each layer, null if there is none. */
        int[][][] best;
        int[][] costs;
        BigInteger[][] ways;
        int cost = -1;
        int bottom = -1;

        Answers(State state) {
            this.state = state;
            int layers = state.layers.size();
            best = new int[layers + 1][601][];
            costs = new int[layers + 1][601];
            ways = new BigInteger[layers + 1][601];
            best[0][0] = new int[0];
            ways[0][0] = BigInteger.ONE;
            for (int place = 0; place < layers; place++) {
                List<int[]> choices = state.choices(place);
                for (int age = 0; age <= 600; age++) {
                    if (best[place][age] != null) {
                        for (int[] choice : choices) {
                            extend(place, age, choice);
                        }
                    }
                }
            }
            for (int age = 0; age <= 600; age++) {
                if (best[layers][age] != null && isBetter(costs[layers][age], best[layers][age], cost,
                        bottom < 0 ? null : best[layers][bottom])) {
                    cost = costs[layers][age];
                    bottom = age;
                }
            }
        }

        private void extend(int place, int age, int[] choice) {
            int next = age + choice[0] + choice[1];
            int ashCost = next > 600 ? -1 : state.ashCost(place + 1, next);
            if (ashCost < 0) {
                return;
            }
            int sum = costs[place][age] + choice[2] + ashCost;
            int[] there = best[place + 1][next];
            if (there != null && costs[place + 1][next] == sum) {
                ways[place + 1][next] = ways[place + 1][next].add(ways[place][age]);
            } else if (there == null || sum < costs[place + 1][next]) {
                ways[place + 1][next] = ways[place][age];
            }
            if (there != null && costs[place + 1][next] < sum) {
                return;
            }
            int[] longer = Arrays.copyOf(best[place][age], 2 * place + 2);
            longer[2 * place] = choice[0];
            longer[2 * place + 1] = choice[1];
            if (there == null || isBetter(sum, longer, costs[place + 1][next], there)) {
                best[place + 1][next] = longer;
                costs[place + 1][next] = sum;
            }
        }

        static boolean isBetter(int cost, int[] count, int otherCost, int[] other) {
            if (other == null || cost != otherCost) {
                return other == null || cost < otherCost;
            }
            for (int i = 0; i < count.length; i += 2) {
                int byChoice = compare(new int[] {count[i], count[i + 1]}, new int[] {other[i], other[i + 1]});
                if (byChoice != 0) {
                    return byChoice < 0;
                }
            }
            return false;
        }

        int[] bestCount() {
            return best[state.layers.size()][bottom];
        }

        int age(int place) {
            int[] count = bestCount();
            int sum = 0;
            for (int i = 0; i < 2 * place; i++) {
                sum += count[i];
            }
            return sum;
        }

        int ways() {
            BigInteger sum = BigInteger.ZERO;
            int layers = state.layers.size();
            for (int age = 0; age <= 600 && cost >= 0; age++) {
                if (best[layers][age] != null && costs[layers][age] == cost) {
                    sum = sum.add(ways[layers][age]);
                }
            }
            return sum.min(MOST_WAYS).intValue();
        }
    }

    /** Every count of a small core, one by one; compares it with the table. */
    private static final class Trial {
        final State state;
        final int[] count;
        int cost = -1;
        int[] best;
        long ways;

        Trial(State state) {
            this.state = state;
            count = new int[2 * state.layers.size()];
            go(0, 0, 0);
        }

        void go(int place, int age, int soFar) {
            int ashCost = age > 600 ? -1 : state.ashCost(place, age);
            if (ashCost < 0) {
                return;
            }
            int sum = soFar + ashCost;
            if (place == state.layers.size()) {
                ways = best == null || sum < cost ? 1 : sum == cost ? ways + 1 : ways;
                if (Answers.isBetter(sum, count, cost, best)) {
                    cost = sum;
                    best = count.clone();
                }
                return;
            }
            for (int[] choice : state.choices(place)) {
                count[2 * place] = choice[0];
                count[2 * place + 1] = choice[1];
                go(place + 1, age + choice[0] + choice[1], sum + choice[2]);
            }
        }
    }

    /** One object beside its model. */
    private static final class Run {
        final int number;
        final VarveClock x = new VarveClock();
        final Deque<State> history = new ArrayDeque<>();
        final StringBuilder told = new StringBuilder();
        final int mostLayers;
        final int mostMissing;
        final boolean isSmall;
        State state = new State();
        String text = "";
        Answers answers;

        Run(int number) {
            this.number = number;
            int[] sizes = {3, 4, 7, 12, 25, 50};
            int size = number % sizes.length;
            mostLayers = sizes[size];
            mostMissing = size < 2 ? 3 : new int[] {2, 9, 20}[pick(3)];
            isSmall = size < 2;
        }

        void due(String call, int got, int want) {
            if (got != want) {
                wrong++;
                System.out.println("run " + number + ": " + call + " answered " + got + ", due is " + want);
                if (wrong == 1) {
                    System.out.println("after" + told);
                }
            }
        }

        void go() {
            int calls = 0;
            if (mostLayers >= 25) {
                for (; calls < mostLayers; calls++) {
                    addLayer(pick(state.layers.size() + 1), 1 + pick(99), pick(3), pick(mostMissing + 1));
                }
            }
            for (; calls < CALLS && wrong < 20; calls++) {
                step();
            }
        }

        void step() {
            int layers = state.layers.size();
            if (pick(layers > 12 ? 6 : 3) == 0) {
                change();
                return;
            }
            int what = pick(isSmall ? 8 : 10);
            if (what == 0) {
                typeSomething();
            } else if (what == 1) {
                simpleQuery();
            } else {
                countQuery();
            }
        }

        void change() {
            int layers = state.layers.size();
            int what = pick(20);
            if (what < 4 && layers < mostLayers || pick(60) == 0 && layers < 50) {
                addLayer(around(0, layers), around(1, 99), around(0, 2), around(0, mostMissing));
            } else if (what < 5) {
                addLayer(around(0, layers), pick(4) == 0 ? 100 : 7, 0, 0);
            } else if (what < 7) {
                removeLayer(around(0, Math.max(0, layers - 1)));
            } else if (what < 10) {
                setLayer(around(0, Math.max(0, layers - 1)), around(0, 2), pick(4) == 0 ? around(0, 99) : pick(3));
            } else if (what < 14) {
                int place = around(1, Math.max(1, layers));
                addAsh(place, likelyAge(place), around(0, 9));
            } else if (what < 16) {
                removeAsh(around(0, Math.max(0, state.ashes.size() - 1)));
            } else if (what < 18) {
                set(around(0, 3), pick(3) == 0 ? 0 : pick(3) == 0 ? around(0, 50) : pick(7));
            } else if (what < 19 && (layers < 15 || pick(6) == 0)) {
                lay();
            } else {
                undo();
            }
        }

        /** Mostly near to what the place can be. */
        int likelyAge(int place) {
            int least = 0;
            int most = 0;
            for (int i = 0; i < place && i < state.layers.size(); i++) {
                int[] layer = state.layers.get(i).properties;
                least += layer[1] == 1 ? 0 : 1;
                most += (layer[1] == 2 ? 2 : 1) + layer[2];
            }
            int kind = pick(10);
            if (kind == 0) {
                return around(0, 500);
            }
            int age = kind < 6 ? least + pick(Math.max(1, (most - least) / 3 + 1)) : least + pick(most - least + 4);
            return Math.min(500, age);
        }

        void begin(State changed) {
            history.addLast(state);
            if (history.size() > 6) {
                history.removeFirst();
            }
            state = changed;
            answers = null;
        }

        void addLayer(int layer, int thickness, int kind, int missing) {
            int want;
            if (layer < 0 || layer > state.layers.size() || thickness < 1 || thickness > 99 || kind < 0 || kind > 2
                    || missing < 0 || missing > 20) {
                want = -1;
            } else if (state.layers.size() == 50) {
                want = -3;
            } else {
                State changed = state.copy();
                changed.layers.add(layer, new Layer(thickness, kind, missing));
                for (int[] ash : changed.ashes) {
                    ash[0] += ash[0] > layer ? 1 : 0;
                }
                begin(changed);
                want = changed.layers.size();
            }
            String call = tell("addLayer", layer, thickness, kind, missing);
            due(call, x.addLayer(layer, thickness, kind, missing), want);
        }

        void removeLayer(int layer) {
            int want = -1;
            if (layer >= 0 && layer < state.layers.size()) {
                State changed = state.copy();
                changed.layers.remove(layer);
                boolean isTaken = layer == 0 || state.hasAshAt(layer);
                changed.ashes.removeIf(ash -> ash[0] == layer + 1 && isTaken);
                for (int[] ash : changed.ashes) {
                    ash[0] -= ash[0] > layer ? 1 : 0;
                }
                begin(changed);
                want = changed.layers.size();
            }
            due(tell("removeLayer", layer), x.removeLayer(layer), want);
        }

        void setLayer(int layer, int what, int value) {
            int want = -1;
            int[] least = {1, 0, 0};
            int[] most = {99, 2, 20};
            if (layer >= 0 && layer < state.layers.size() && what >= 0 && what <= 2 && value >= least[what]
                    && value <= most[what]) {
                State changed = state.copy();
                want = changed.layers.get(layer).properties[what];
                changed.layers.get(layer).properties[what] = value;
                begin(changed);
            }
            due(tell("setLayer", layer, what, value), x.setLayer(layer, what, value), want);
        }

        void addAsh(int place, int age, int uncertainty) {
            int want;
            if (!isAsh(place, age, uncertainty)) {
                want = -1;
            } else if (state.hasAshAt(place)) {
                want = -2;
            } else if (state.ashes.size() == 6) {
                want = -3;
            } else {
                State changed = state.copy();
                int[] ash = {place, age, uncertainty};
                changed.ashes.add(ash);
                changed.order();
                want = changed.ashes.indexOf(ash);
                begin(changed);
            }
            due(tell("addAsh", place, age, uncertainty), x.addAsh(place, age, uncertainty), want);
        }

        boolean isAsh(int place, int age, int uncertainty) {
            return place >= 1 && place <= state.layers.size() && age >= 0 && age <= 500 && uncertainty >= 0
                    && uncertainty <= 9;
        }

        void removeAsh(int ash) {
            int want = -1;
            if (ash >= 0 && ash < state.ashes.size()) {
                State changed = state.copy();
                changed.ashes.remove(ash);
                begin(changed);
                want = changed.ashes.size();
            }
            due(tell("removeAsh", ash), x.removeAsh(ash), want);
        }

        void set(int what, int value) {
            int want = -1;
            if (what >= 0 && what <= 3 && value >= 0 && value <= 50) {
                State changed = state.copy();
                want = changed.settings[what];
                changed.settings[what] = value;
                begin(changed);
            }
            due(tell("set", what, value), x.set(what, value), want);
        }

        void lay() {
            int want = -2;
            State changed = new State();
            changed.settings = state.settings.clone();
            if (readText(changed) < 0) {
                begin(changed);
                want = changed.layers.size();
            }
            due(tell("lay"), x.lay(), want);
        }

        void undo() {
            int want = -2;
            if (!history.isEmpty()) {
                state = history.removeLast();
                answers = null;
                want = history.size();
            }
            due(tell("undo"), x.undo(), want);
        }

        /** The fault, or -4. */
        int readText(State draft) {
            Pattern form = Pattern.compile("(layer|faint|thick|gap) ([0-9]{1,3});|ash ([0-9]{1,3}) ([0-9]{1,3});");
            Matcher matcher = form.matcher(text);
            int at = 0;
            while (at < text.length()) {
                matcher.region(at, text.length());
                if (!matcher.lookingAt() || !isTaken(matcher, draft)) {
                    return at;
                }
                at = matcher.end();
            }
            return -4;
        }

        private boolean isTaken(Matcher command, State draft) {
            int last = draft.layers.size() - 1;
            if (command.group(1) == null) {
                int age = Integer.parseInt(command.group(3));
                int uncertainty = Integer.parseInt(command.group(4));
                boolean isPossible = last >= 0 && !draft.hasAshAt(last + 1) && draft.ashes.size() < 6;
                draft.ashes.add(new int[] {last + 1, age, uncertainty});
                return isPossible && age <= 500 && uncertainty <= 9;
            }
            int value = Integer.parseInt(command.group(2));
            int kind = Arrays.asList("layer", "faint", "thick", "gap").indexOf(command.group(1));
            if (kind == 3) {
                if (last >= 0) {
                    draft.layers.get(last).properties[2] = value;
                }
                return last >= 0 && value <= 20;
            }
            draft.layers.add(new Layer(value, kind, 0));
            return value >= 1 && value <= 99 && last < 49;
        }

        void typeSomething() {
            if (pick(6) == 0 || text.length() > 80 && pick(2) == 0) {
                due(tell("clearText"), x.clearText(), text.length());
                text = "";
                return;
            }
            String[] words = {"layer ", "faint ", "thick ", "layer ", "thick ", "gap ", "ash ", "gap ", "ash "};
            int word = pick(words.length);
            String command = words[word] + (pick(4) == 0 ? "0" : "") + pick(22) + (words[word].equals("ash ") ? " " + pick(10) : "")
                    + ";";
            if (pick(20) == 0) {
                int at = pick(command.length());
                command = command.substring(0, at) + (char) (31 + pick(97)) + command.substring(at + pick(2));
            }
            for (int i = 0; i < command.length(); i++) {
                char sign = command.charAt(i);
                int want = sign < 32 || sign > 126 ? -1 : text.length() == 90 ? -3 : text.length() + 1;
                text = want > 0 ? text + sign : text;
                due(tell("type", sign), x.type(sign), want);
            }
        }

        void simpleQuery() {
            int layer = around(0, Math.max(0, state.layers.size() - 1));
            int ash = around(0, Math.max(0, state.ashes.size() - 1));
            int what = around(0, 2);
            boolean isWhat = what >= 0 && what <= 2;
            boolean isLayer = layer >= 0 && layer < state.layers.size();
            boolean isAsh = ash >= 0 && ash < state.ashes.size();
            due(tell("layer", layer, what), x.layer(layer, what),
                    isWhat && isLayer ? state.layers.get(layer).properties[what] : -1);
            due(tell("ash", ash, what), x.ash(ash, what), isWhat && isAsh ? state.ashes.get(ash)[what] : -1);
            due(tell("fault"), x.fault(), readText(new State()));
            int number = around(0, 9);
            due(tell("count", number), x.count(number), number(number));
        }

        int number(int what) {
            int[] numbers = new int[5];
            numbers[0] = state.layers.size();
            numbers[1] = state.ashes.size();
            for (Layer layer : state.layers) {
                numbers[2] += layer.properties[0];
                numbers[3] += layer.properties[1] == 1 ? 1 : 0;
                numbers[4] += layer.properties[1] == 2 ? 1 : 0;
            }
            if (what < 0 || what > 9) {
                return -1;
            }
            return what < 5 ? numbers[what] : what < 9 ? state.settings[what - 5] : history.size();
        }

        Answers answers() {
            if (answers == null) {
                answers = new Answers(state);
                if (isSmall && state.layers.size() <= 4) {
                    Trial trial = new Trial(state);
                    due("the model's cost", answers.cost, trial.cost);
                    due("the model's ways", answers.ways(), (int) Math.min(1000000, trial.ways));
                    if (trial.best != null && !Arrays.equals(trial.best, answers.bestCount())) {
                        due("the model's best count", 0, 1);
                    }
                }
            }
            return answers;
        }

        void countQuery() {
            int layers = state.layers.size();
            int place = around(0, layers);
            switch (pick(11)) {
                case 0:
                    due(tell("cost"), x.cost(), answers().cost < 0 ? -4 : answers().cost);
                    break;
                case 1:
                    years(around(0, Math.max(0, layers - 1)), around(0, 1));
                    break;
                case 2:
                    due(tell("age", place), x.age(place), place < 0 || place > layers ? -1 : answers().cost < 0 ? -4
                            : answers().age(place));
                    break;
                case 3:
                    offset(around(0, Math.max(0, state.ashes.size() - 1)));
                    break;
                case 4:
                    total(around(0, 4));
                    break;
                case 5:
                    due(tell("ways"), x.ways(), answers().ways());
                    break;
                case 6:
                    rate(place, around(0, layers), around(0, 1));
                    break;
                case 7:
                    bound(place, pick(3) == 0 ? around(0, 200) : pick(20), around(0, 1));
                    break;
                case 8:
                    without(around(0, Math.max(0, state.ashes.size() - 1)));
                    break;
                case 9:
                    widen();
                    break;
                default:
                    costWith(place, likelyAge(place), around(0, 9));
                    break;
            }
        }

        void years(int layer, int what) {
            boolean isRight = layer >= 0 && layer < state.layers.size() && what >= 0 && what <= 1;
            due(tell("years", layer, what), x.years(layer, what),
                    !isRight ? -1 : answers().cost < 0 ? -4 : answers().bestCount()[2 * layer + what]);
        }

        void offset(int ash) {
            boolean isRight = ash >= 0 && ash < state.ashes.size();
            due(tell("offset", ash), x.offset(ash), !isRight ? -1 : answers().cost < 0 ? -4
                    : 100 + answers().age(state.ashes.get(ash)[0]) - state.ashes.get(ash)[1]);
        }

        void total(int what) {
            int want = -1;
            if (what >= 0 && what <= 4) {
                want = answers().cost < 0 ? -4 : totals()[what];
            }
            due(tell("total", what), x.total(what), want);
        }

        int[] totals() {
            int[] totals = new int[5];
            int[] count = answers().bestCount();
            for (int i = 0; i < state.layers.size(); i++) {
                int kind = state.layers.get(i).properties[1];
                totals[0] += kind == 1 && count[2 * i] == 0 ? 1 : 0;
                totals[1] += kind == 2 && count[2 * i] == 2 ? 1 : 0;
                totals[2] += count[2 * i + 1];
            }
            for (int[] ash : state.ashes) {
                totals[3] += Math.abs(answers().age(ash[0]) - ash[1]);
            }
            totals[4] = answers().age(state.layers.size());
            return totals;
        }

        void rate(int upper, int lower, int what) {
            int want = -1;
            int layers = state.layers.size();
            if (upper >= 0 && lower <= layers && lower > upper && what >= 0 && what <= 1) {
                want = -4;
                if (answers().cost >= 0 && answers().age(upper) != answers().age(lower)) {
                    BigInteger thickness = BigInteger.ZERO;
                    for (int i = upper; i < lower; i++) {
                        thickness = thickness.add(BigInteger.valueOf(state.layers.get(i).properties[0]));
                    }
                    BigInteger years = BigInteger.valueOf(answers().age(lower) - answers().age(upper));
                    want = (what == 0 ? thickness : years).divide(thickness.gcd(years)).intValue();
                }
            }
            due(tell("rate", upper, lower, what), x.rate(upper, lower, what), want);
        }

        void bound(int place, int slack, int what) {
            int want = -1;
            if (place >= 0 && place <= state.layers.size() && slack >= 0 && slack <= 200 && what >= 0 && what <= 1) {
                want = answers().cost < 0 ? -4 : boundOf(place, answers().cost + slack, what == 0);
            }
            due(tell("bound", place, slack, what), x.bound(place, slack, what), want);
        }

        /** The least cost from each age of the place to the bottom, added to that from the top. */
        int boundOf(int place, int limit, boolean isLeast) {
            int layers = state.layers.size();
            int found = -9;
            for (int start = 0; start <= 600; start++) {
                if (answers().best[place][start] == null) {
                    continue;
                }
                int[] costs = new int[601];
                Arrays.fill(costs, -1);
                costs[start] = answers().costs[place][start];
                for (int i = place; i < layers; i++) {
                    costs = below(i, costs);
                }
                for (int age = 0; age <= 600; age++) {
                    if (costs[age] >= 0 && costs[age] <= limit && (found < 0 || !isLeast)) {
                        found = start;
                    }
                }
                if (isLeast && found >= 0) {
                    break;
                }
            }
            return found;
        }

        int[] below(int layer, int[] costs) {
            int[] next = new int[601];
            Arrays.fill(next, -1);
            List<int[]> choices = state.choices(layer);
            for (int age = 0; age <= 600; age++) {
                for (int c = 0; c < choices.size() && costs[age] >= 0; c++) {
                    int[] choice = choices.get(c);
                    int to = age + choice[0] + choice[1];
                    int ashCost = to > 600 ? -1 : state.ashCost(layer + 1, to);
                    int sum = costs[age] + choice[2] + ashCost;
                    if (ashCost >= 0 && (next[to] < 0 || sum < next[to])) {
                        next[to] = sum;
                    }
                }
            }
            return next;
        }

        void without(int ash) {
            int want = -1;
            if (ash >= 0 && ash < state.ashes.size()) {
                State other = state.copy();
                other.ashes.remove(ash);
                int cost = new Answers(other).cost;
                want = cost < 0 ? -4 : cost;
            }
            due(tell("without", ash), x.without(ash), want);
        }

        void widen() {
            int want = 0;
            State other = state.copy();
            while (!hasCount(other)) {
                want++;
                for (int[] ash : other.ashes) {
                    ash[2]++;
                }
            }
            due(tell("widen"), x.widen(), want);
        }

        static boolean hasCount(State state) {
            boolean[] can = new boolean[601];
            can[0] = true;
            boolean any = true;
            for (int i = 0; i < state.layers.size() && any; i++) {
                boolean[] next = new boolean[601];
                any = false;
                List<int[]> choices = state.choices(i);
                for (int age = 0; age <= 600; age++) {
                    for (int c = 0; c < choices.size() && can[age]; c++) {
                        int to = age + choices.get(c)[0] + choices.get(c)[1];
                        if (to <= 600 && !next[to] && state.ashCost(i + 1, to) >= 0) {
                            next[to] = true;
                            any = true;
                        }
                    }
                }
                can = next;
            }
            return any;
        }

        void costWith(int place, int age, int uncertainty) {
            int want;
            if (!isAsh(place, age, uncertainty)) {
                want = -1;
            } else if (state.hasAshAt(place)) {
                want = -2;
            } else {
                State other = state.copy();
                other.ashes.add(new int[] {place, age, uncertainty});
                int cost = new Answers(other).cost;
                want = cost < 0 ? -4 : cost;
            }
            due(tell("costWith", place, age, uncertainty), x.costWith(place, age, uncertainty), want);
        }

        String tell(String name, int... arguments) {
            StringBuilder call = new StringBuilder(name).append('(');
            for (int i = 0; i < arguments.length; i++) {
                call.append(i == 0 ? "" : ", ").append(arguments[i]);
            }
            call.append(')');
            told.append(' ').append(call);
            return call.toString();
        }
    }
}
