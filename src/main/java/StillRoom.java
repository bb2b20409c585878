/**
 * Who knows the recipe: the steps, the hands that were told them, and what becomes of
 * the recipe when hands go over. The promises stand in ../shared/DOC.md.
 */
public final class StillRoom {
    private static final int NOBODY = -1;
    private static final int OTHER = -2;
    private static final int STATE = -3;
    private static final int BELOW = -4;
    private static final int ROOM = -6;
    private static final int NONE = -9;
    private static final int FAULT = -20;

    private static final int FIRST_STEPS = 4;
    private static final int MOST_STEPS = 10;
    private static final int MOST_HANDS = 8;
    private static final int MOST_PAIRS = 12;
    private static final int FIRST_CHANCE = 5;
    private static final int MOST_CHANCE = 100;
    private static final int MOST_BYTES = 80;
    private static final int BYTES_OF_A_LONG = 8;
    private static final int MOST_YEARS = 50;
    /** All bits of an int but its sign's. */
    private static final int WITHOUT_SIGN = 0x7fffffff;
    private static final int MOST_ROW = 8;
    /** Half of eight hands can be chosen in 70 ways, and no other number of them in more. */
    private static final int MOST_CHOICES = 70;
    /** A telling is ten times the hand and the step. */
    private static final int TELLING = 10;
    private static final int MOST_TELLINGS = TELLING * MOST_HANDS;
    /** More members than any set has: what a search for the fewest begins with. */
    private static final int MANY = 99;

    private static final int EACH = 0;
    private static final int HALF = 4;
    private static final int KINDS = 5;

    private static final int LOST = 0;
    private static final int CARRIED = 1;

    private final House now;
    private final Mind mind;
    private final Text text;
    private final int[] row;
    private final int[] refusals;
    private final int[] mending;
    private int rowLength;
    private House kept;

    public StillRoom() {
        now = new House();
        mind = new Mind(now);
        text = new Text();
        row = new int[MOST_ROW];
        refusals = new int[1 - ROOM];
        mending = new int[2];
        rowLength = 0;
        kept = null;
    }

    public int feed(int n, long bytes) {
        if (n < 1) {
            return refuse(BELOW);
        }
        if (n > BYTES_OF_A_LONG || n > MOST_BYTES - text.length) {
            return refuse(ROOM);
        }
        text.take(n, bytes);
        return text.length;
    }

    public int house() {
        int came = text.readInto(now);
        text.length = 0;
        return came;
    }

    public int steps(int n) {
        int wrong = outside(n, 1, MOST_STEPS);
        if (wrong != 0) {
            return refuse(wrong);
        }
        int were = now.steps;
        now.setSteps(n);
        return were;
    }

    public int hand(int told) {
        if (!now.isStepSet(told)) {
            return refuse(NOBODY);
        }
        if (now.hands >= MOST_HANDS) {
            return refuse(ROOM);
        }
        now.addHand(told);
        return now.hands - 1;
    }

    public int tell(int hand, int step, boolean is) {
        if (!now.isHand(hand) || !now.isStep(step)) {
            return refuse(NOBODY);
        }
        int was = now.told[hand];
        now.told[hand] = with(was, step, is);
        return now.told[hand] == was ? 0 : 1;
    }

    public int chance(int hand, int v) {
        if (!now.isHand(hand)) {
            return refuse(NOBODY);
        }
        int wrong = outside(v, 0, MOST_CHANCE);
        if (wrong != 0) {
            return refuse(wrong);
        }
        int was = now.chances[hand];
        now.chances[hand] = v;
        return was;
    }

    public int over(int hand, boolean is) {
        if (!now.isHand(hand)) {
            return refuse(NOBODY);
        }
        int were = now.gone;
        now.gone = with(were, hand, is);
        return now.gone == were ? 0 : 1;
    }

    public int sight(int who, int whom) {
        if (!now.areTwoHands(who, whom)) {
            return refuse(NOBODY);
        }
        if (now.sights.has(who, whom)) {
            return refuse(STATE);
        }
        if (now.sights.isFull()) {
            return refuse(ROOM);
        }
        now.sights.add(who, whom);
        return now.sights.size - 1;
    }

    public int tie(int a, int b) {
        if (!now.areTwoHands(a, b)) {
            return refuse(NOBODY);
        }
        if (now.ties.isFull()) {
            return refuse(ROOM);
        }
        now.ties.add(a, b);
        return now.ties.size;
    }

    public int guess(int from, int step) {
        if (!now.isStepSet(from) || from == 0 || !now.isStep(step) || contains(from, step)) {
            return refuse(NOBODY);
        }
        if (now.guesses.isFull()) {
            return refuse(ROOM);
        }
        now.guesses.add(from, step);
        return now.guesses.size;
    }

    public int paper(int set) {
        if (!now.isStepSet(set)) {
            return refuse(NOBODY);
        }
        int was = now.paper;
        now.paper = set;
        return was;
    }

    public int knows(int hand, int what) {
        if (!now.isHand(hand)) {
            return refuse(NOBODY);
        }
        if (what < 0 || what > 3) {
            return refuse(OTHER);
        }
        mind.begin();
        switch (what) {
            case 0:
                return now.told[hand];
            case 1:
                return mind.seenBy(hand);
            case 2:
                return mind.knownTo(1 << hand);
            default:
                return mind.guessedFrom(mind.knownTo(1 << hand));
        }
    }

    public int known(int hands, boolean paper) {
        if (!now.isHandSet(hands)) {
            return refuse(NOBODY);
        }
        mind.begin();
        return mind.guessedFrom(mind.knownTo(hands) | (paper ? now.paper : 0));
    }

    public int stays(int g) {
        int wrong = outside(g, 0, MOST_HANDS);
        if (wrong != 0) {
            return refuse(wrong);
        }
        mind.begin();
        mind.chooseLeavers(g);
        return mind.isKept() ? 1 : 0;
    }

    public int safe(int j) {
        int wrong = outside(j, 0, MOST_HANDS);
        if (wrong != 0) {
            return refuse(wrong);
        }
        mind.begin();
        mind.chooseTakers(j);
        return mind.isSafe() ? 1 : 0;
    }

    public int losers() {
        mind.begin();
        return fewestWhoGo(LOST);
    }

    public int carriers() {
        mind.begin();
        return fewestWhoGo(CARRIED);
    }

    public int keys() {
        mind.begin();
        int keys = 0;
        for (int hand = 0; hand < now.hands; hand++) {
            if (mind.isHere(hand) && mind.happens(LOST, 1 << hand)) {
                keys |= 1 << hand;
            }
        }
        return keys;
    }

    public int monday(int hand, int g, int j) {
        if (!now.isHand(hand)) {
            return refuse(NOBODY);
        }
        if (contains(now.gone, hand)) {
            return refuse(STATE);
        }
        int wrong = outsideHands(g, j);
        if (wrong != 0) {
            return refuse(wrong);
        }
        mind.begin();
        mind.chooseLeavers(g);
        mind.chooseTakers(j);
        return fewestToTell(hand);
    }

    public int mend(int g, int j, int i) {
        int wrong = i < -1 ? BELOW : outsideHands(g, j);
        if (wrong != 0) {
            return refuse(wrong);
        }
        mind.begin();
        mind.chooseLeavers(g);
        mind.chooseTakers(j);
        int tellings = fewestTellings();
        if (i == -1) {
            return tellings;
        }
        return i < tellings && i < mending.length ? mending[i] : NONE;
    }

    public int walls(int j) {
        int wrong = outside(j, 0, MOST_HANDS);
        if (wrong != 0) {
            return refuse(wrong);
        }
        mind.begin();
        mind.chooseTakers(j);
        return fewestWalls();
    }

    public int bank(int g) {
        int wrong = outside(g, 0, MOST_HANDS);
        if (wrong != 0) {
            return refuse(wrong);
        }
        mind.begin();
        mind.chooseLeavers(g);
        return fewestOnPaper();
    }

    public int giving(int kind, int what, int n) {
        if (kind < 0 || kind >= KINDS) {
            return refuse(NOBODY);
        }
        if (what < 0 || what > 2) {
            return refuse(OTHER);
        }
        int wrong = outside(n, 0, MOST_HANDS);
        if (wrong != 0) {
            return refuse(wrong);
        }
        if (now.inHouse() == 0) {
            return refuse(STATE);
        }
        mind.begin();
        int tellings = mind.giveOut(kind);
        if (what == 0) {
            return tellings;
        }
        mind.chooseLeavers(n);
        mind.chooseTakers(n);
        boolean holds = what == 1 ? mind.isKept() : mind.isSafe();
        return holds ? 1 : 0;
    }

    public int finest(int g, int j) {
        int wrong = outsideHands(g, j);
        if (wrong != 0) {
            return refuse(wrong);
        }
        if (now.inHouse() == 0) {
            return refuse(STATE);
        }
        mind.begin();
        mind.chooseLeavers(g);
        mind.chooseTakers(j);
        return finestKind();
    }

    public long loses() {
        mind.begin();
        return likely(LOST);
    }

    public long carries() {
        mind.begin();
        return likely(CARRIED);
    }

    public int run(int n, int z, int what) {
        if (what < 0 || what > 2) {
            return refuse(OTHER);
        }
        int wrong = outside(n, 1, MOST_YEARS);
        if (wrong != 0) {
            return refuse(wrong);
        }
        mind.begin();
        return runYears(n, z, what);
    }

    public int put(int hand) {
        if (hand < 0) {
            return refuse(BELOW);
        }
        if (hand >= MOST_HANDS || rowLength >= MOST_ROW) {
            return refuse(ROOM);
        }
        row[rowLength] = hand;
        rowLength++;
        return rowLength;
    }

    public int judge(int what) {
        if (what < 0 || what > 2) {
            return refuse(OTHER);
        }
        mind.begin();
        int place = placeInRow(what);
        rowLength = 0;
        return place;
    }

    public int image() {
        if (kept == null) {
            kept = new House();
        }
        kept.copyFrom(now);
        return kept.hands;
    }

    public int restore() {
        if (kept == null) {
            return refuse(STATE);
        }
        now.copyFrom(kept);
        return now.hands;
    }

    public int count(int what) {
        switch (what) {
            case 0:
                return now.steps;
            case 1:
                return now.hands;
            case 2:
                return now.gone;
            case 3:
                return now.sights.size;
            case 4:
                return now.ties.size;
            case 5:
                return now.guesses.size;
            case 6:
                return now.toldInAll();
            case 7:
                return text.length;
            case 8:
                return rowLength;
            default:
                return what >= 11 && what <= 16 ? refusals[what - 10] : NONE;
        }
    }

    private int refuse(int refusal) {
        int kind = -refusal;
        if (kind >= 0 && kind < refusals.length) {
            refusals[kind]++;
        }
        return refusal;
    }

    /** Zero if a number lies within its bounds, or else its refusal. */
    private static int outside(int number, int least, int most) {
        if (number < least) {
            return BELOW;
        }
        return number > most ? ROOM : 0;
    }

    /** The same for two numbers of hands: what is below goes ahead of what is above. */
    private static int outsideHands(int g, int j) {
        if (g < 0 || j < 0) {
            return BELOW;
        }
        return g > MOST_HANDS || j > MOST_HANDS ? ROOM : 0;
    }

    private static boolean contains(int set, int member) {
        return (set >> member & 1) != 0;
    }

    private static int with(int set, int member, boolean is) {
        return is ? set | 1 << member : set & ~(1 << member);
    }

    /** Sets come in rising order, so the first with so few members is the least of them. */
    private int fewestWhoGo(int what) {
        int best = NONE;
        int fewest = MANY;
        for (int set = 0; set < 1 << now.hands; set++) {
            int members = Integer.bitCount(set);
            if (members < fewest && mind.areHere(set) && mind.happens(what, set)) {
                best = set;
                fewest = members;
            }
        }
        return best;
    }

    private int fewestToTell(int hand) {
        // Telling more never makes it safer: what is carried off now stays so.
        if (!mind.isSafe()) {
            return NONE;
        }
        int told = now.told[hand];
        int best = NONE;
        int fewest = MANY;
        for (int set = 0; set < 1 << now.steps; set++) {
            int members = Integer.bitCount(set);
            if (members < fewest && (set & told) == 0) {
                mind.told[hand] = told | set;
                if (mind.holds()) {
                    best = set;
                    fewest = members;
                }
            }
        }
        return best;
    }

    /** How many tellings mend it; which ones stands in mending then. */
    private int fewestTellings() {
        // As for monday: no telling mends what is carried off now.
        if (!mind.isSafe()) {
            return NONE;
        }
        if (mind.isKept()) {
            return 0;
        }
        if (findTellingFrom(0, 0)) {
            return 1;
        }
        for (int first = 0; first < MOST_TELLINGS; first++) {
            if (mind.canTell(first)) {
                mind.setTelling(first, true);
                boolean found = mind.isSafe() && findTellingFrom(first + 1, 1);
                mind.setTelling(first, false);
                if (found) {
                    mending[0] = first;
                    return 2;
                }
            }
        }
        return NONE;
    }

    /** The first telling, from one on, with which all holds: it becomes the i-th of mending. */
    private boolean findTellingFrom(int least, int i) {
        for (int telling = least; telling < MOST_TELLINGS; telling++) {
            if (mind.canTell(telling)) {
                mind.setTelling(telling, true);
                boolean holds = mind.holds();
                mind.setTelling(telling, false);
                if (holds) {
                    mending[i] = telling;
                    return true;
                }
            }
        }
        return false;
    }

    private int fewestWalls() {
        int all = (1 << now.sights.size) - 1;
        mind.lookAround(all);
        // Walls only ever take knowledge away: if all of them do not help, none do.
        if (!mind.isSafe()) {
            return NONE;
        }
        int best = all;
        int fewest = now.sights.size;
        for (int set = 0; set < all; set++) {
            int members = Integer.bitCount(set);
            if (members < fewest) {
                mind.lookAround(set);
                if (mind.isSafe()) {
                    best = set;
                    fewest = members;
                }
            }
        }
        return best;
    }

    private int fewestOnPaper() {
        int best = now.it();
        int fewest = now.steps;
        for (int set = 0; set < now.it(); set++) {
            int members = Integer.bitCount(set);
            if (members < fewest) {
                mind.paper = set;
                if (mind.isKept()) {
                    best = set;
                    fewest = members;
                }
            }
        }
        return best;
    }

    private int finestKind() {
        int best = NONE;
        int fewest = MANY;
        for (int kind = 0; kind < KINDS; kind++) {
            int tellings = mind.giveOut(kind);
            if (tellings < fewest && mind.holds()) {
                best = kind;
                fewest = tellings;
            }
        }
        return best;
    }

    private long likely(int what) {
        long sum = 0;
        for (int set = 0; set < 1 << now.hands; set++) {
            if (mind.areHere(set) && mind.happens(what, set)) {
                sum += now.weightOf(set);
            }
        }
        return sum;
    }

    private int runYears(int years, int z, int what) {
        int seed = z;
        int went = 0;
        for (int year = 1; year <= years; year++) {
            for (int hand = 0; hand < now.hands; hand++) {
                if (mind.isHere(hand)) {
                    seed = seed * 1103515245 + 12345;
                    if ((seed & WITHOUT_SIGN) / 65536 % 100 < now.chances[hand]) {
                        mind.leave(hand);
                        went++;
                    }
                }
            }
            if (what != 2 && mind.happens(what, 0)) {
                return year;
            }
        }
        return what == 2 ? went : NONE;
    }

    private int placeInRow(int what) {
        for (int place = 0; place < rowLength; place++) {
            if (!mind.isHere(row[place])) {
                return what == 2 ? place : NONE;
            }
            mind.leave(row[place]);
            if (what != 2 && mind.happens(what, 0)) {
                return place;
            }
        }
        return NONE;
    }

    /** Up to twelve pairs of numbers: sights, ties or guesses. */
    private static final class Pairs {
        final int[] firsts = new int[MOST_PAIRS];
        final int[] seconds = new int[MOST_PAIRS];
        int size = 0;

        boolean isFull() {
            return size >= MOST_PAIRS;
        }

        boolean has(int first, int second) {
            for (int i = 0; i < size; i++) {
                if (firsts[i] == first && seconds[i] == second) {
                    return true;
                }
            }
            return false;
        }

        void add(int first, int second) {
            if (size < MOST_PAIRS) {
                firsts[size] = first;
                seconds[size] = second;
                size++;
            }
        }

        void copyFrom(Pairs other) {
            System.arraycopy(other.firsts, 0, firsts, 0, MOST_PAIRS);
            System.arraycopy(other.seconds, 0, seconds, 0, MOST_PAIRS);
            size = other.size;
        }
    }

    /** All that an image keeps. */
    private static final class House {
        final int[] told = new int[MOST_HANDS];
        final int[] chances = new int[MOST_HANDS];
        final Pairs sights = new Pairs();
        final Pairs ties = new Pairs();
        /** The first of a pair is the set, the second the step that is guessed from it. */
        final Pairs guesses = new Pairs();
        int steps = FIRST_STEPS;
        int hands = 0;
        int gone = 0;
        int paper = 0;

        int it() {
            return (1 << steps) - 1;
        }

        int inHouse() {
            return (1 << hands) - 1 & ~gone;
        }

        boolean isStep(int step) {
            return step >= 0 && step < steps;
        }

        boolean isStepSet(int set) {
            return set >> steps == 0;
        }

        boolean isHand(int hand) {
            return hand >= 0 && hand < hands;
        }

        boolean isHandSet(int set) {
            return set >> hands == 0;
        }

        boolean areTwoHands(int a, int b) {
            return isHand(a) && isHand(b) && a != b;
        }

        void addHand(int set) {
            if (hands < MOST_HANDS) {
                told[hands] = set;
                chances[hands] = FIRST_CHANCE;
                hands++;
            }
        }

        void setSteps(int n) {
            steps = n;
            for (int hand = 0; hand < hands; hand++) {
                told[hand] &= it();
            }
            paper &= it();
            dropGuesses();
        }

        private void dropGuesses() {
            int were = guesses.size;
            guesses.size = 0;
            for (int i = 0; i < were; i++) {
                int from = guesses.firsts[i];
                int step = guesses.seconds[i];
                if (isStepSet(from) && isStep(step)) {
                    guesses.add(from, step);
                }
            }
        }

        int toldInAll() {
            int sum = 0;
            for (int hand = 0; hand < hands; hand++) {
                sum += Integer.bitCount(told[hand]);
            }
            return sum;
        }

        /** How likely just this set of the house goes, times 100 for each hand in it. */
        long weightOf(int goers) {
            long weight = 1;
            for (int hand = 0; hand < hands; hand++) {
                if (contains(inHouse(), hand)) {
                    int goes = chances[hand];
                    weight *= contains(goers, hand) ? goes : MOST_CHANCE - goes;
                }
            }
            return weight;
        }

        void copyFrom(House other) {
            System.arraycopy(other.told, 0, told, 0, MOST_HANDS);
            System.arraycopy(other.chances, 0, chances, 0, MOST_HANDS);
            sights.copyFrom(other.sights);
            ties.copyFrom(other.ties);
            guesses.copyFrom(other.guesses);
            steps = other.steps;
            hands = other.hands;
            gone = other.gone;
            paper = other.paper;
        }
    }

    /** The sets of just so many out of one set of hands. */
    private static final class Choices {
        final int[] sets = new int[MOST_CHOICES];
        int size = 0;
        /** Where a look begins: the set that failed last is the likeliest to fail again. */
        int start = 0;

        void choose(int of, int many) {
            int just = Math.min(many, Integer.bitCount(of));
            size = 0;
            start = 0;
            for (int set = 0; set <= of; set++) {
                if ((set & ~of) == 0 && Integer.bitCount(set) == just && size < MOST_CHOICES) {
                    sets[size] = set;
                    size++;
                }
            }
        }

        int next(int at) {
            return at + 1 < size ? at + 1 : 0;
        }
    }

    /** The house as a question thinks of it: what the question supposes is written here alone. */
    private static final class Mind {
        private final House real;
        final int[] told = new int[MOST_HANDS];
        /** Of each hand: the hands that it is joined to by ties, it too. */
        private final int[] joined = new int[MOST_HANDS];
        /** Of each hand: the hands that it sees, it too. */
        private final int[] seen = new int[MOST_HANDS];
        /** Of each hand: the hands whose told steps it knows by sights and ties. */
        private final int[] sources = new int[MOST_HANDS];
        private final Choices leavers = new Choices();
        private final Choices takers = new Choices();
        private int everyone = 0;
        private int here = 0;
        private int it = 0;
        int paper = 0;

        Mind(House house) {
            real = house;
        }

        void begin() {
            System.arraycopy(real.told, 0, told, 0, MOST_HANDS);
            everyone = (1 << real.hands) - 1;
            here = real.inHouse();
            it = real.it();
            paper = real.paper;
            join();
            lookAround(0);
        }

        private void join() {
            for (int hand = 0; hand < MOST_HANDS; hand++) {
                joined[hand] = 1 << hand;
            }
            for (int i = 0; i < real.ties.size; i++) {
                int all = joined[real.ties.firsts[i]] | joined[real.ties.seconds[i]];
                for (int hand = 0; hand < MOST_HANDS; hand++) {
                    if (contains(all, hand)) {
                        joined[hand] = all;
                    }
                }
            }
        }

        /** Who sees whom, but for the sights behind walls. */
        void lookAround(int walled) {
            for (int hand = 0; hand < MOST_HANDS; hand++) {
                seen[hand] = 1 << hand;
            }
            for (int i = 0; i < real.sights.size; i++) {
                if (!contains(walled, i)) {
                    seen[real.sights.firsts[i]] |= 1 << real.sights.seconds[i];
                }
            }
            for (int hand = 0; hand < real.hands; hand++) {
                sources[hand] = union(seen, joined[hand]);
            }
        }

        private static int union(int[] sets, int members) {
            int all = 0;
            for (int i = 0; i < sets.length; i++) {
                if ((members >> i & 1) != 0) {
                    all |= sets[i];
                }
            }
            return all;
        }

        int seenBy(int hand) {
            return union(told, seen[hand]);
        }

        /** What a set of hands knows by telling, sights and ties. */
        int knownTo(int hands) {
            return union(told, union(sources, hands));
        }

        int guessedFrom(int known) {
            Pairs guesses = real.guesses;
            int all = known;
            boolean more = all != it;
            for (int round = 0; more && round <= guesses.size; round++) {
                int before = all;
                for (int i = 0; i < guesses.size; i++) {
                    if ((guesses.firsts[i] & ~all) == 0) {
                        all |= 1 << guesses.seconds[i];
                    }
                }
                more = all != before;
            }
            return all;
        }

        boolean isHere(int hand) {
            return contains(here, hand);
        }

        boolean areHere(int set) {
            return (set & ~here) == 0;
        }

        void leave(int hand) {
            here &= ~(1 << hand);
        }

        /** Whether it is LOST, or CARRIED, by a set of the house that goes. */
        boolean happens(int what, int goers) {
            if (what == LOST) {
                int stayers = union(sources, here & ~goers);
                return guessedFrom(union(told, stayers) | paper) != it;
            }
            int away = union(sources, goers | everyone & ~here);
            return guessedFrom(union(told, away)) == it;
        }

        void chooseLeavers(int g) {
            leavers.choose(here, g);
        }

        void chooseTakers(int j) {
            takers.choose(here, j);
        }

        boolean isKept() {
            return neverHappens(LOST, leavers);
        }

        boolean isSafe() {
            return neverHappens(CARRIED, takers);
        }

        boolean holds() {
            return neverHappens(LOST, leavers) && neverHappens(CARRIED, takers);
        }

        private boolean neverHappens(int what, Choices choices) {
            int at = choices.start;
            for (int i = 0; i < choices.size; i++) {
                if (happens(what, choices.sets[at])) {
                    choices.start = at;
                    return false;
                }
                at = choices.next(at);
            }
            return true;
        }

        boolean canTell(int telling) {
            int hand = telling / TELLING;
            int step = telling % TELLING;
            return isHere(hand) && real.isStep(step) && !contains(told[hand], step);
        }

        void setTelling(int telling, boolean is) {
            int hand = telling / TELLING;
            told[hand] = with(told[hand], telling % TELLING, is);
        }

        /** Tells the house's hands by a kind alone: how many tellings that takes. */
        int giveOut(int kind) {
            int many = Integer.bitCount(here);
            int place = 0;
            int tellings = 0;
            for (int hand = 0; hand < real.hands; hand++) {
                if (isHere(hand)) {
                    told[hand] = givenTo(place, many, kind);
                    tellings += Integer.bitCount(told[hand]);
                    place++;
                }
            }
            return tellings;
        }

        private int givenTo(int place, int many, int kind) {
            int set = 0;
            for (int step = 0; step < real.steps; step++) {
                if (isGiven(step, place, many, kind)) {
                    set |= 1 << step;
                }
            }
            return set;
        }

        private boolean isGiven(int step, int place, int many, int kind) {
            if (kind == EACH || many < 1) {
                return true;
            }
            if (kind == HALF) {
                return step < real.steps / 2 == place < many / 2;
            }
            // DARK gives to one, PAIR to two, ROW to three one behind the other: their numbers.
            return Math.floorMod(place - step, many) < kind;
        }
    }

    /** A house as bytes, and the reading of them. */
    private static final class Text {
        private final byte[] bytes = new byte[MOST_BYTES];
        int length = 0;
        /** The byte that is read next; when the reading fails, the place of the fault. */
        private int place = 0;

        void take(int n, long lowestFirst) {
            for (int i = 0; i < n && length < MOST_BYTES; i++) {
                bytes[length] = (byte) (lowestFirst >>> 8 * i);
                length++;
            }
        }

        int readInto(House house) {
            place = 0;
            int came = 0;
            while (place < length && came < MOST_BYTES) {
                if (!readStatement(house)) {
                    return FAULT - place;
                }
                came++;
            }
            return came;
        }

        private boolean readStatement(House house) {
            int letter = place;
            int sign = bytes[letter];
            if (!hasRoom(house, sign)) {
                return false;
            }
            place++;
            switch (sign) {
                case 'h':
                    return readHand(house);
                case 's':
                    return readSight(house, letter);
                case 't':
                    return readTie(house);
                case 'g':
                    return readGuess(house);
                default:
                    return readPaper(house);
            }
        }

        /** Whether a statement may begin with a letter: it is one, and there is room for it. */
        private static boolean hasRoom(House house, int letter) {
            switch (letter) {
                case 'h':
                    return house.hands < MOST_HANDS;
                case 's':
                    return !house.sights.isFull();
                case 't':
                    return !house.ties.isFull();
                case 'g':
                    return !house.guesses.isFull();
                default:
                    return letter == 'p';
            }
        }

        private boolean readHand(House house) {
            int set = readSteps(house);
            if (!readSign(';')) {
                return false;
            }
            house.addHand(set);
            return true;
        }

        private boolean readSight(House house, int letter) {
            int who = readDigit(house, NOBODY);
            int whom = who < 0 ? NOBODY : readDigit(house, who);
            if (whom < 0) {
                return false;
            }
            if (house.sights.has(who, whom)) {
                place = letter;
                return false;
            }
            if (!readSign(';')) {
                return false;
            }
            house.sights.add(who, whom);
            return true;
        }

        private boolean readTie(House house) {
            int a = readDigit(house, NOBODY);
            int b = a < 0 ? NOBODY : readDigit(house, a);
            if (b < 0 || !readSign(';')) {
                return false;
            }
            house.ties.add(a, b);
            return true;
        }

        private boolean readGuess(House house) {
            int from = readSteps(house);
            if (from == 0 || !readSign('>')) {
                return false;
            }
            int step = place < length ? bytes[place] - 'a' : NOBODY;
            if (!house.isStep(step) || contains(from, step)) {
                return false;
            }
            place++;
            if (!readSign(';')) {
                return false;
            }
            house.guesses.add(from, step);
            return true;
        }

        private boolean readPaper(House house) {
            int set = readSteps(house);
            if (!readSign(';')) {
                return false;
            }
            house.paper = set;
            return true;
        }

        /** Letters as long as they rise; what comes behind them is for the caller to judge. */
        private int readSteps(House house) {
            int set = 0;
            int least = 0;
            while (place < length) {
                int step = bytes[place] - 'a';
                if (step < least || !house.isStep(step)) {
                    return set;
                }
                set |= 1 << step;
                least = step + 1;
                place++;
            }
            return set;
        }

        /** A hand that is not the other one, or NOBODY. */
        private int readDigit(House house, int other) {
            int hand = place < length ? bytes[place] - '0' : NOBODY;
            if (!house.isHand(hand) || hand == other) {
                return NOBODY;
            }
            place++;
            return hand;
        }

        private boolean readSign(char sign) {
            if (place < length && bytes[place] == sign) {
                place++;
                return true;
            }
            return false;
        }
    }
}
