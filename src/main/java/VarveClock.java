/**
 * A varve clock: the layers of a core are counted as years, ash layers of known age tie the count
 * down, and the cheapest count that fits all ashes is found exactly. README.md tells how it is used.
 */
public final class VarveClock {
    public static final int INVALID_ARGUMENT = -1;
    public static final int NOT_POSSIBLE = -2;
    public static final int LIMIT_REACHED = -3;
    public static final int NOT_FOUND = -4;

    private static final int MOST_LAYERS = 50;
    private static final int MOST_THICKNESS = 99;
    private static final int MOST_MISSING = 20;
    private static final int MOST_ASHES = 6;
    private static final int MOST_ASH_AGE = 500;
    private static final int MOST_UNCERTAINTY = 9;
    private static final int MOST_SETTING = 50;
    private static final int MOST_AGE = 600;
    private static final int MOST_SLACK = 200;
    private static final int MOST_WAYS = 1000000;
    private static final int MOST_STATES = 6;
    private static final int MOST_SIGNS = 90;
    private static final int MOST_DIGITS = 3;

    private static final int CLEAR = 0;
    private static final int FAINT = 1;
    private static final int THICK = 2;

    private static final int SETTINGS = 4;
    private static final int FAINT_PRICE = 0;
    private static final int THICK_PRICE = 1;
    private static final int MISSING_PRICE = 2;
    private static final int OFFSET_PRICE = 3;

    private static final int NOBODY = -1;

    /** Stands for "no count"; far above every cost, and the sum of several of it is still an int. */
    private static final int NO_COUNT = 1 << 28;

    private final Core core;
    private final History history;
    private final Script script;
    private final Reckoning reckoning;

    public VarveClock() {
        core = new Core();
        history = new History();
        script = new Script();
        reckoning = new Reckoning(core);
    }

    // ---- the core

    public int addLayer(int layer, int thickness, int kind, int missing) {
        if (!isWithin(layer, 0, core.layers) || !isWithin(thickness, 1, MOST_THICKNESS)
                || !isWithin(kind, CLEAR, THICK) || !isWithin(missing, 0, MOST_MISSING)) {
            return INVALID_ARGUMENT;
        }
        if (core.layers >= MOST_LAYERS) {
            return LIMIT_REACHED;
        }
        beginChange();
        core.insertLayer(layer, thickness, kind, missing);
        return core.layers;
    }

    public int removeLayer(int layer) {
        if (!isLayer(layer)) {
            return INVALID_ARGUMENT;
        }
        beginChange();
        core.deleteLayer(layer);
        return core.layers;
    }

    public int setLayer(int layer, int what, int value) {
        if (!isLayer(layer) || !isWithin(what, 0, 2)
                || !isWithin(value, leastProperty(what), mostProperty(what))) {
            return INVALID_ARGUMENT;
        }
        int[] properties = core.layerProperties(what);
        int previous = properties[layer];
        beginChange();
        properties[layer] = value;
        return previous;
    }

    public int addAsh(int place, int age, int uncertainty) {
        if (!isAshOfRange(place, age, uncertainty)) {
            return INVALID_ARGUMENT;
        }
        if (core.ashAt(place) != NOBODY) {
            return NOT_POSSIBLE;
        }
        if (core.ashes >= MOST_ASHES) {
            return LIMIT_REACHED;
        }
        beginChange();
        return core.insertAsh(place, age, uncertainty);
    }

    public int removeAsh(int ash) {
        if (!isAsh(ash)) {
            return INVALID_ARGUMENT;
        }
        beginChange();
        core.deleteAsh(ash);
        return core.ashes;
    }

    public int set(int what, int value) {
        if (!isWithin(what, 0, SETTINGS - 1) || !isWithin(value, 0, MOST_SETTING)) {
            return INVALID_ARGUMENT;
        }
        int previous = core.setting[what];
        beginChange();
        core.setting[what] = value;
        return previous;
    }

    public int lay() {
        if (script.read() != NOT_FOUND) {
            return NOT_POSSIBLE;
        }
        beginChange();
        core.takeLayersAndAshes(script.draft);
        return core.layers;
    }

    public int undo() {
        if (history.size == 0) {
            return NOT_POSSIBLE;
        }
        history.restore(core);
        reckoning.forget();
        return history.size;
    }

    public int count(int what) {
        switch (what) {
            case 0:
                return core.layers;
            case 1:
                return core.ashes;
            case 2:
                return core.thicknessBetween(0, core.layers);
            case 3:
                return core.layersOfKind(FAINT);
            case 4:
                return core.layersOfKind(THICK);
            case 5:
                return core.setting[FAINT_PRICE];
            case 6:
                return core.setting[THICK_PRICE];
            case 7:
                return core.setting[MISSING_PRICE];
            case 8:
                return core.setting[OFFSET_PRICE];
            case 9:
                return history.size;
            default:
                return INVALID_ARGUMENT;
        }
    }

    public int layer(int layer, int what) {
        if (!isLayer(layer) || !isWithin(what, 0, 2)) {
            return INVALID_ARGUMENT;
        }
        return core.layerProperties(what)[layer];
    }

    public int ash(int ash, int what) {
        if (!isAsh(ash) || !isWithin(what, 0, 2)) {
            return INVALID_ARGUMENT;
        }
        return core.ashProperties(what)[ash];
    }

    // ---- the best count

    public int cost() {
        if (!reckoning.hasCount()) {
            return NOT_FOUND;
        }
        return reckoning.leastCost();
    }

    public int years(int layer, int what) {
        if (!isLayer(layer) || !isWithin(what, 0, 1)) {
            return INVALID_ARGUMENT;
        }
        if (!reckoning.hasCount()) {
            return NOT_FOUND;
        }
        return what == 0 ? reckoning.bestOwn[layer] : reckoning.bestMissing[layer];
    }

    public int age(int place) {
        if (!isPlace(place)) {
            return INVALID_ARGUMENT;
        }
        if (!reckoning.hasCount()) {
            return NOT_FOUND;
        }
        return reckoning.bestAge[place];
    }

    public int offset(int ash) {
        if (!isAsh(ash)) {
            return INVALID_ARGUMENT;
        }
        if (!reckoning.hasCount()) {
            return NOT_FOUND;
        }
        return 100 + reckoning.offsetOf(ash);
    }

    public int total(int what) {
        if (!isWithin(what, 0, 4)) {
            return INVALID_ARGUMENT;
        }
        if (!reckoning.hasCount()) {
            return NOT_FOUND;
        }
        switch (what) {
            case 0:
                return reckoning.layersWith(FAINT, 0);
            case 1:
                return reckoning.layersWith(THICK, 2);
            case 2:
                return reckoning.allMissing();
            case 3:
                return reckoning.allOffsets();
            default:
                return reckoning.bestAge[core.layers];
        }
    }

    public int ways() {
        if (!reckoning.hasCount()) {
            return 0;
        }
        return reckoning.numberOfWays();
    }

    public int rate(int upper, int lower, int what) {
        if (!isPlace(upper) || !isPlace(lower) || lower <= upper || !isWithin(what, 0, 1)) {
            return INVALID_ARGUMENT;
        }
        if (!reckoning.hasCount()) {
            return NOT_FOUND;
        }
        int years = reckoning.bestAge[lower] - reckoning.bestAge[upper];
        if (years <= 0) {
            return NOT_FOUND;
        }
        int thickness = core.thicknessBetween(upper, lower);
        int divisor = greatestDivisor(thickness, years);
        return what == 0 ? thickness / divisor : years / divisor;
    }

    // ---- other counts; nothing changes

    public int bound(int place, int slack, int what) {
        if (!isPlace(place) || !isWithin(slack, 0, MOST_SLACK) || !isWithin(what, 0, 1)) {
            return INVALID_ARGUMENT;
        }
        if (!reckoning.hasCount()) {
            return NOT_FOUND;
        }
        int limit = reckoning.leastCost() + slack;
        return what == 0 ? reckoning.leastAge(place, limit) : reckoning.greatestAge(place, limit);
    }

    public int without(int ash) {
        if (!isAsh(ash)) {
            return INVALID_ARGUMENT;
        }
        return costOrNotFound(reckoning.leastWithoutAsh(core.place[ash]));
    }

    public int widen() {
        // The number is put together from its binary digits: it is as great as there are
        // numbers that don't suffice, for whatever suffices does so when it is greater, too.
        int tooFew = 0;
        for (int digit = 256; digit > 0; digit /= 2) {
            if (!core.fitsWith(tooFew + digit - 1)) {
                tooFew += digit;
            }
        }
        return tooFew;
    }

    public int costWith(int place, int age, int uncertainty) {
        if (!isAshOfRange(place, age, uncertainty)) {
            return INVALID_ARGUMENT;
        }
        if (core.ashAt(place) != NOBODY) {
            return NOT_POSSIBLE;
        }
        return costOrNotFound(reckoning.leastWithAsh(place, age, uncertainty));
    }

    // ---- the text

    public int type(int character) {
        if (!isWithin(character, 32, 126)) {
            return INVALID_ARGUMENT;
        }
        if (script.length >= MOST_SIGNS) {
            return LIMIT_REACHED;
        }
        script.append((char) character);
        return script.length;
    }

    public int clearText() {
        int length = script.length;
        script.length = 0;
        return length;
    }

    public int fault() {
        return script.read();
    }

    // ---- what the methods share

    /** Is called when it is sure that a change will be made, and before it is made. */
    private void beginChange() {
        history.keep(core);
        reckoning.forget();
    }

    private boolean isLayer(int layer) {
        return isWithin(layer, 0, core.layers - 1);
    }

    private boolean isPlace(int place) {
        return isWithin(place, 0, core.layers);
    }

    private boolean isAsh(int ash) {
        return isWithin(ash, 0, core.ashes - 1);
    }

    private boolean isAshOfRange(int place, int age, int uncertainty) {
        return isWithin(place, 1, core.layers) && isWithin(age, 0, MOST_ASH_AGE)
                && isWithin(uncertainty, 0, MOST_UNCERTAINTY);
    }

    private static boolean isWithin(int number, int least, int most) {
        return number >= least && number <= most;
    }

    private static int leastProperty(int what) {
        return what == 0 ? 1 : 0;
    }

    private static int mostProperty(int what) {
        if (what == 0) {
            return MOST_THICKNESS;
        }
        return what == 1 ? THICK : MOST_MISSING;
    }

    private static int costOrNotFound(int leastCost) {
        return leastCost < NO_COUNT ? leastCost : NOT_FOUND;
    }

    private static int greatestDivisor(int one, int other) {
        for (int divisor = other; divisor > 1; divisor--) {
            if (one % divisor == 0 && other % divisor == 0) {
                return divisor;
            }
        }
        return 1;
    }

    /** Layers, ashes and settings: what a change may alter, and what the history keeps. */
    private static final class Core {
        final int[] thickness;
        final int[] kind;
        final int[] missing;
        final int[] place;
        final int[] ashAge;
        final int[] uncertainty;
        final int[] setting;
        int layers;
        int ashes;

        Core() {
            thickness = new int[MOST_LAYERS];
            kind = new int[MOST_LAYERS];
            missing = new int[MOST_LAYERS];
            place = new int[MOST_ASHES];
            ashAge = new int[MOST_ASHES];
            uncertainty = new int[MOST_ASHES];
            setting = new int[SETTINGS];
            setting[FAINT_PRICE] = 4;
            setting[THICK_PRICE] = 5;
            setting[MISSING_PRICE] = 3;
            setting[OFFSET_PRICE] = 2;
            layers = 0;
            ashes = 0;
        }

        void empty() {
            layers = 0;
            ashes = 0;
        }

        void takeAll(Core other) {
            takeLayersAndAshes(other);
            System.arraycopy(other.setting, 0, setting, 0, SETTINGS);
        }

        void takeLayersAndAshes(Core other) {
            layers = other.layers;
            System.arraycopy(other.thickness, 0, thickness, 0, layers);
            System.arraycopy(other.kind, 0, kind, 0, layers);
            System.arraycopy(other.missing, 0, missing, 0, layers);
            ashes = other.ashes;
            System.arraycopy(other.place, 0, place, 0, ashes);
            System.arraycopy(other.ashAge, 0, ashAge, 0, ashes);
            System.arraycopy(other.uncertainty, 0, uncertainty, 0, ashes);
        }

        int[] layerProperties(int what) {
            if (what == 0) {
                return thickness;
            }
            return what == 1 ? kind : missing;
        }

        int[] ashProperties(int what) {
            if (what == 0) {
                return place;
            }
            return what == 1 ? ashAge : uncertainty;
        }

        /** Only for a number from 0 to the number of layers, while there are fewer than 50. */
        void insertLayer(int number, int newThickness, int newKind, int newMissing) {
            insertAt(thickness, number, layers, newThickness);
            insertAt(kind, number, layers, newKind);
            insertAt(missing, number, layers, newMissing);
            layers++;
            for (int i = 0; i < ashes; i++) {
                if (place[i] > number) {
                    place[i]++;
                }
            }
        }

        /** Only for the number of a layer. */
        void deleteLayer(int number) {
            int directlyBelow = ashAt(number + 1);
            if (directlyBelow != NOBODY && (number == 0 || ashAt(number) != NOBODY)) {
                deleteAsh(directlyBelow);
            }
            deleteAt(thickness, number, layers);
            deleteAt(kind, number, layers);
            deleteAt(missing, number, layers);
            layers--;
            for (int i = 0; i < ashes; i++) {
                if (place[i] > number) {
                    place[i]--;
                }
            }
        }

        /** Only for a free place, while there are fewer than 6 ashes; returns the ash's number. */
        int insertAsh(int newPlace, int newAge, int newUncertainty) {
            int number = 0;
            for (int i = 0; i < ashes; i++) {
                if (place[i] < newPlace) {
                    number++;
                }
            }
            insertAt(place, number, ashes, newPlace);
            insertAt(ashAge, number, ashes, newAge);
            insertAt(uncertainty, number, ashes, newUncertainty);
            ashes++;
            return number;
        }

        /** Only for the number of an ash. */
        void deleteAsh(int number) {
            deleteAt(place, number, ashes);
            deleteAt(ashAge, number, ashes);
            deleteAt(uncertainty, number, ashes);
            ashes--;
        }

        int ashAt(int wanted) {
            for (int i = 0; i < ashes; i++) {
                if (place[i] == wanted) {
                    return i;
                }
            }
            return NOBODY;
        }

        int thicknessBetween(int upper, int lower) {
            int sum = 0;
            for (int i = upper; i < lower; i++) {
                sum += thickness[i];
            }
            return sum;
        }

        int layersOfKind(int wanted) {
            int number = 0;
            for (int i = 0; i < layers; i++) {
                if (kind[i] == wanted) {
                    number++;
                }
            }
            return number;
        }

        int leastOwn(int layer) {
            return kind[layer] == FAINT ? 0 : 1;
        }

        int mostOwn(int layer) {
            return kind[layer] == THICK ? 2 : 1;
        }

        int mostYears(int layer) {
            return (kind[layer] == THICK ? 2 : 1) + missing[layer];
        }

        int ownCost(int layer, int own) {
            if (kind[layer] == FAINT && own == 0) {
                return setting[FAINT_PRICE];
            }
            return kind[layer] == THICK && own == 2 ? setting[THICK_PRICE] : 0;
        }

        int missingCost(int years) {
            return years * setting[MISSING_PRICE];
        }

        /** What an ash asks for an age of its place; no ash (NOBODY) asks nothing. */
        int ashCost(int ash, int age) {
            if (ash == NOBODY) {
                return 0;
            }
            int difference = Math.abs(age - ashAge[ash]);
            return difference > uncertainty[ash] ? NO_COUNT : difference * setting[OFFSET_PRICE];
        }

        /** Whether there is a count if all uncertainties are greater by a number. */
        boolean fitsWith(int extra) {
            // A layer's numbers of years have no holes, so the ages that a place can have
            // don't have any either: their least and greatest one say all.
            int least = 0;
            int greatest = 0;
            for (int i = 0; i < layers; i++) {
                least += leastOwn(i);
                greatest = Math.min(MOST_AGE, greatest + mostYears(i));
                int ash = ashAt(i + 1);
                if (ash != NOBODY) {
                    least = Math.max(least, ashAge[ash] - uncertainty[ash] - extra);
                    greatest = Math.min(greatest, ashAge[ash] + uncertainty[ash] + extra);
                }
                if (least > greatest) {
                    return false;
                }
            }
            return true;
        }

        private static void insertAt(int[] row, int at, int size, int value) {
            for (int i = size; i > at; i--) {
                row[i] = row[i - 1];
            }
            row[at] = value;
        }

        private static void deleteAt(int[] row, int at, int size) {
            for (int i = at + 1; i < size; i++) {
                row[i - 1] = row[i];
            }
        }
    }

    /** The latest states before changes, in a ring: a new one takes the oldest one's room. */
    private static final class History {
        final Core[] states;
        int next;
        int size;

        History() {
            states = new Core[MOST_STATES];
            for (int i = 0; i < MOST_STATES; i++) {
                states[i] = new Core();
            }
            next = 0;
            size = 0;
        }

        void keep(Core core) {
            states[next].takeAll(core);
            next = next == MOST_STATES - 1 ? 0 : next + 1;
            size = Math.min(MOST_STATES, size + 1);
        }

        /** Only if there is a state. */
        void restore(Core core) {
            next = next == 0 ? MOST_STATES - 1 : next - 1;
            core.takeAll(states[next]);
            size--;
        }
    }

    /** The text, and the core that it tells. */
    private static final class Script {
        final char[] signs;
        final Core draft;
        int length;
        int at;

        Script() {
            signs = new char[MOST_SIGNS];
            draft = new Core();
            length = 0;
            at = 0;
        }

        /** Only while there are fewer than 90 characters. */
        void append(char sign) {
            signs[length] = sign;
            length++;
        }

        /** Reads the text into the draft; returns the fault, or NOT_FOUND if there is none. */
        int read() {
            draft.empty();
            at = 0;
            for (int command = 0; command < MOST_SIGNS && at < length; command++) {
                int start = at;
                if (!readCommand()) {
                    return start;
                }
            }
            return NOT_FOUND;
        }

        private boolean readCommand() {
            if (skipWord("layer ")) {
                return readLayer(CLEAR);
            }
            if (skipWord("faint ")) {
                return readLayer(FAINT);
            }
            if (skipWord("thick ")) {
                return readLayer(THICK);
            }
            if (skipWord("gap ")) {
                return readGap();
            }
            return skipWord("ash ") && readAsh();
        }

        private boolean readLayer(int kind) {
            int thickness = readNumber(';');
            if (!isWithin(thickness, 1, MOST_THICKNESS) || draft.layers >= MOST_LAYERS) {
                return false;
            }
            draft.insertLayer(draft.layers, thickness, kind, 0);
            return true;
        }

        private boolean readGap() {
            int missing = readNumber(';');
            if (!isWithin(missing, 0, MOST_MISSING) || draft.layers == 0) {
                return false;
            }
            draft.missing[draft.layers - 1] = missing;
            return true;
        }

        private boolean readAsh() {
            int age = readNumber(' ');
            if (!isWithin(age, 0, MOST_ASH_AGE)) {
                return false;
            }
            int uncertainty = readNumber(';');
            if (!isWithin(uncertainty, 0, MOST_UNCERTAINTY)) {
                return false;
            }
            if (draft.layers == 0 || draft.ashes >= MOST_ASHES || draft.ashAt(draft.layers) != NOBODY) {
                return false;
            }
            draft.insertAsh(draft.layers, age, uncertainty);
            return true;
        }

        private boolean skipWord(String word) {
            if (at + word.length() > length) {
                return false;
            }
            for (int i = 0; i < word.length(); i++) {
                if (signs[at + i] != word.charAt(i)) {
                    return false;
                }
            }
            at += word.length();
            return true;
        }

        /** Reads 1 to 3 digits and the sign behind them; returns NOBODY if they don't stand there. */
        private int readNumber(char end) {
            int number = 0;
            int digits = 0;
            while (digits < MOST_DIGITS && at < length && isWithin(signs[at], '0', '9')) {
                number = number * 10 + (signs[at] - '0');
                digits++;
                at++;
            }
            if (digits == 0 || at >= length || signs[at] != end) {
                return NOBODY;
            }
            at++;
            return number;
        }
    }

    /** The least costs of all parts of counts, and the best count; made when they are asked for. */
    private static final class Reckoning {
        final Core core;
        /** By place and age: the least cost of the layers and ashes above the place. */
        final int[][] above;
        /** By place and age: the least cost of the layers and ashes below the place. */
        final int[][] below;
        final int[] withAsh;
        final int[] withOwn;
        final int[] queue;
        final int[] waysHere;
        final int[] waysNext;
        final int[] bestOwn;
        final int[] bestMissing;
        final int[] bestAge;
        /** No place can be older, so the rows are used up to here only. */
        int oldest;
        boolean belowStands;
        boolean aboveStands;
        /** NOBODY while it isn't known. */
        int knownWays;

        Reckoning(Core core) {
            this.core = core;
            above = new int[MOST_LAYERS + 1][MOST_AGE + 1];
            below = new int[MOST_LAYERS + 1][MOST_AGE + 1];
            withAsh = new int[MOST_AGE + 1];
            withOwn = new int[MOST_AGE + 1];
            queue = new int[MOST_AGE + 1];
            waysHere = new int[MOST_AGE + 1];
            waysNext = new int[MOST_AGE + 1];
            bestOwn = new int[MOST_LAYERS];
            bestMissing = new int[MOST_LAYERS];
            bestAge = new int[MOST_LAYERS + 1];
            oldest = 0;
            belowStands = false;
            aboveStands = false;
            knownWays = NOBODY;
        }

        void forget() {
            belowStands = false;
            aboveStands = false;
            knownWays = NOBODY;
        }

        boolean hasCount() {
            makeBelow();
            return below[0][0] < NO_COUNT;
        }

        /** Only if there is a count. */
        int leastCost() {
            return below[0][0];
        }

        int offsetOf(int ash) {
            return bestAge[core.place[ash]] - core.ashAge[ash];
        }

        int layersWith(int kind, int own) {
            int number = 0;
            for (int i = 0; i < core.layers; i++) {
                if (core.kind[i] == kind && bestOwn[i] == own) {
                    number++;
                }
            }
            return number;
        }

        int allMissing() {
            int sum = 0;
            for (int i = 0; i < core.layers; i++) {
                sum += bestMissing[i];
            }
            return sum;
        }

        int allOffsets() {
            int sum = 0;
            for (int i = 0; i < core.ashes; i++) {
                sum += Math.abs(offsetOf(i));
            }
            return sum;
        }

        /** NO_COUNT or above if no count goes on without the ash at the place. */
        int leastWithoutAsh(int place) {
            makeAbove();
            int least = NO_COUNT;
            for (int age = 0; age <= oldest; age++) {
                least = Math.min(least, costThrough(place, age));
            }
            return least;
        }

        /** NO_COUNT or above if no count goes on with an ash at the place, where none is. */
        int leastWithAsh(int place, int ashAge, int uncertainty) {
            makeAbove();
            int least = NO_COUNT;
            int last = Math.min(oldest, ashAge + uncertainty);
            for (int age = Math.max(0, ashAge - uncertainty); age <= last; age++) {
                int offsetCost = Math.abs(age - ashAge) * core.setting[OFFSET_PRICE];
                least = Math.min(least, costThrough(place, age) + offsetCost);
            }
            return least;
        }

        int leastAge(int place, int limit) {
            makeAbove();
            int ash = core.ashAt(place);
            for (int age = 0; age <= oldest; age++) {
                if (costThrough(place, age) + core.ashCost(ash, age) <= limit) {
                    return age;
                }
            }
            return NOT_FOUND;
        }

        int greatestAge(int place, int limit) {
            makeAbove();
            int ash = core.ashAt(place);
            for (int age = oldest; age >= 0; age--) {
                if (costThrough(place, age) + core.ashCost(ash, age) <= limit) {
                    return age;
                }
            }
            return NOT_FOUND;
        }

        /** Without what the ash at the place itself asks. */
        private int costThrough(int place, int age) {
            return above[place][age] + below[place][age];
        }

        /** Only if there is a count. */
        int numberOfWays() {
            if (knownWays == NOBODY) {
                knownWays = countWays();
            }
            return knownWays;
        }

        private int countWays() {
            clearRow(waysHere, 0);
            waysHere[0] = 1;
            for (int layer = 0; layer < core.layers; layer++) {
                addAshCosts(layer + 1, below[layer + 1]);
                clearRow(waysNext, 0);
                for (int age = 0; age <= oldest; age++) {
                    if (waysHere[age] > 0) {
                        handOnWays(layer, age);
                    }
                }
                System.arraycopy(waysNext, 0, waysHere, 0, oldest + 1);
            }
            int sum = 0;
            for (int age = 0; age <= oldest; age++) {
                sum = Math.min(MOST_WAYS, sum + waysHere[age]);
            }
            return sum;
        }

        /** Needs the costs from the place below the layer on in withAsh. */
        private void handOnWays(int layer, int age) {
            int costHere = below[layer][age];
            for (int own = core.leastOwn(layer); own <= core.mostOwn(layer); own++) {
                int ownCost = core.ownCost(layer, own);
                int most = Math.min(core.missing[layer], oldest - age - own);
                for (int missing = 0; missing <= most; missing++) {
                    int next = age + own + missing;
                    if (ownCost + core.missingCost(missing) + withAsh[next] == costHere) {
                        waysNext[next] = Math.min(MOST_WAYS, waysNext[next] + waysHere[age]);
                    }
                }
            }
        }

        private void makeBelow() {
            if (belowStands) {
                return;
            }
            oldest = 0;
            for (int i = 0; i < core.layers; i++) {
                oldest = Math.min(MOST_AGE, oldest + core.mostYears(i));
            }
            clearRow(below[core.layers], 0);
            for (int layer = core.layers - 1; layer >= 0; layer--) {
                addAshCosts(layer + 1, below[layer + 1]);
                addOwnCosts(layer, false);
                addMissingCosts(layer, false, below[layer]);
            }
            if (below[0][0] < NO_COUNT) {
                followBest();
            }
            belowStands = true;
        }

        private void makeAbove() {
            makeBelow();
            if (aboveStands) {
                return;
            }
            clearRow(above[0], NO_COUNT);
            above[0][0] = 0;
            for (int layer = 0; layer < core.layers; layer++) {
                addAshCosts(layer, above[layer]);
                addOwnCosts(layer, true);
                addMissingCosts(layer, true, above[layer + 1]);
            }
            aboveStands = true;
        }

        private void clearRow(int[] row, int value) {
            for (int age = 0; age <= oldest; age++) {
                row[age] = value;
            }
        }

        /** From a row to withAsh. */
        private void addAshCosts(int place, int[] row) {
            int ash = core.ashAt(place);
            for (int age = 0; age <= oldest; age++) {
                withAsh[age] = Math.min(NO_COUNT, row[age] + core.ashCost(ash, age));
            }
        }

        /** From withAsh to withOwn; downward the ages grow by the layer's years. */
        private void addOwnCosts(int layer, boolean downward) {
            clearRow(withOwn, NO_COUNT);
            for (int own = core.leastOwn(layer); own <= core.mostOwn(layer); own++) {
                int ownCost = core.ownCost(layer, own);
                for (int younger = 0; younger + own <= oldest; younger++) {
                    int from = downward ? younger : younger + own;
                    int to = downward ? younger + own : younger;
                    withOwn[to] = Math.min(withOwn[to], withAsh[from] + ownCost);
                }
            }
        }

        /**
         * From withOwn to a row. The queue holds the ages, as steps on the way, that can still be
         * the cheapest to come from: each is cheaper than all later ones, the first is the cheapest.
         */
        private void addMissingCosts(int layer, boolean downward, int[] row) {
            int first = 0;
            int end = 0;
            for (int step = 0; step <= oldest; step++) {
                int age = downward ? step : oldest - step;
                while (end > first && costFrom(queue[end - 1], step, downward) >= withOwn[age]) {
                    end--;
                }
                queue[end] = step;
                end++;
                while (first < end - 1 && queue[first] < step - core.missing[layer]) {
                    first++;
                }
                row[age] = Math.min(NO_COUNT, costFrom(queue[first], step, downward));
            }
        }

        private int costFrom(int earlier, int step, boolean downward) {
            int age = downward ? earlier : oldest - earlier;
            return withOwn[age] + core.missingCost(step - earlier);
        }

        /** Only if there is a count. */
        private void followBest() {
            bestAge[0] = 0;
            for (int layer = 0; layer < core.layers; layer++) {
                addAshCosts(layer + 1, below[layer + 1]);
                chooseYears(layer, bestAge[layer]);
                bestAge[layer + 1] = bestAge[layer] + bestOwn[layer] + bestMissing[layer];
            }
        }

        /** Needs the costs from the place below the layer on in withAsh. */
        private void chooseYears(int layer, int age) {
            int most = Math.min(core.mostYears(layer), oldest - age);
            for (int years = core.leastOwn(layer); years <= most; years++) {
                for (int own = core.leastOwn(layer); own <= core.mostOwn(layer); own++) {
                    int missing = years - own;
                    int cost = core.ownCost(layer, own) + core.missingCost(missing) + withAsh[age + years];
                    if (isWithin(missing, 0, core.missing[layer]) && cost == below[layer][age]) {
                        bestOwn[layer] = own;
                        bestMissing[layer] = missing;
                        return;
                    }
                }
            }
        }
    }
}
