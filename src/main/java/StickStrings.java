import java.util.NoSuchElementException;

/**
 * Players on a stage between stick and string, told as a text: when each begins, how it is
 * together in a hall, who goes by whom, and what comes of taking eyes, ears and sticks away.
 *
 * The words of the document are kept: LAW, PLAYER, BEAT, ENTRY, SPREAD, LAG and the others mean
 * here what they mean there. No call makes an object: all rows are made once, with the object.
 */
public final class StickStrings {

    public static final int NONE = -1;

    private static final int NO_SUCH = Integer.MIN_VALUE;
    private static final int REFUSED = -2;
    private static final int HOLDING = -2;

    private static final int MOST_BYTES = 800;
    private static final int MOST_BEATS = 40;
    private static final int MOST_LAWS = 6;
    private static final int MOST_PLAYERS = 8;
    private static final int MOST_WRONG = 6;
    private static final int MOST_LINKS = 4;
    private static final int MOST_NOTES = 40;
    private static final int MOST_UNDO = 20;
    private static final int MOST_DRAWS = 50;
    private static final int MOST_CHANGES = 20;
    private static final int MOST_WAYS = 120;
    private static final int FEW_PLAYERS = 5;

    private static final int STAGE_EDGE = 30;
    private static final int HALL_EDGE = 40;
    private static final int MOST_OFF = 9999;
    private static final int MOST_WRONG_BY = 2000;
    private static final int MOST_TIME = 1000000;
    private static final int MOST_JITTER = 200;
    private static final int BOUND = 1000000000;

    private static final int BY_STICK = 0;
    private static final int BY_OWN = 1;
    private static final int BY_SEEN = 2;
    private static final int BY_HEARD = 3;
    private static final int WEIGHT_COUNT = 4;
    private static final int STICK_BIT = 1;
    private static final int HEARD_BIT = 8;
    private static final int ALL_BITS = 15;

    private static final int HOLDS = 0;
    private static final int DRAGS = 1;
    private static final int RUSHES = 2;
    private static final int APART = 3;
    private static final int VERDICT_BEATS = 8;

    private final Parser parser;
    private Score score;
    private Score spare;
    private final Stage stage;
    private final Film notes;
    private final Cast cast;
    private final Play play;
    private final Play without;
    private final Seating seating;
    private final int[] lawEntries;

    public StickStrings() {
        parser = new Parser();
        score = new Score();
        spare = new Score();
        stage = new Stage();
        notes = new Film();
        cast = new Cast();
        play = new Play();
        without = new Play();
        seating = new Seating();
        lawEntries = new int[MOST_LAWS * MOST_BEATS];
    }

    // ---- the text

    public int feed(int a, int b, int c, int d, int e) {
        Tape tape = parser.tape;
        if (!tape.hasRoom(20)) {
            return NONE;
        }
        tape.append(a);
        tape.append(b);
        tape.append(c);
        tape.append(d);
        tape.append(e);
        return tape.count;
    }

    public int text(int n) {
        if (n < 0 || n > parser.tape.count) {
            return REFUSED;
        }
        boolean good = parser.parse(n, spare);
        parser.tape.count = 0;
        if (!good) {
            return NONE;
        }
        Score old = score;
        score = spare;
        spare = old;
        stage.settle(score.players);
        notes.wipe();
        return parser.lines;
    }

    public int fault(int what) {
        switch (what) {
            case 0: return parser.fault;
            case 1: return parser.place;
            default: return NONE;
        }
    }

    public int named(int what, int letters) {
        switch (what) {
            case 0: return find(score.laws.names, score.laws.count, letters);
            case 1: return find(score.players.names, score.players.count, letters);
            default: return NONE;
        }
    }

    public int look(int player, int what) throws IndexOutOfBoundsException, NoSuchElementException {
        if (!isPlayer(player)) {
            throw new IndexOutOfBoundsException("no such player");
        }
        Players players = score.players;
        switch (what) {
            case 0: return players.law[player];
            case 1: return stage.x[player];
            case 2: return stage.y[player];
            case 3: return players.speak[player];
            case 4: return players.dares[player];
            case 5: return players.sees[player];
            case 6: return players.hears[player];
            case 7: return stage.taken[player];
            default: throw new NoSuchElementException("no such what");
        }
    }

    public int law(int law, int what) {
        Laws laws = score.laws;
        if (!laws.has(law)) {
            return NO_SUCH;
        }
        if (what >= 0 && what < WEIGHT_COUNT) {
            return laws.weight(law, what);
        }
        switch (what) {
            case 4: return laws.habit[law];
            case 5: return laws.ahead[law] ? 1 : 0;
            default: return NO_SUCH;
        }
    }

    public int count(int what) {
        switch (what) {
            case 0: return score.laws.count;
            case 1: return score.players.count;
            case 2: return score.beats;
            case 3: return score.wrongs;
            case 4: return notes.count;
            case 5: return notes.knownCount();
            case 6: return stage.kept;
            case 7: return score.stickX;
            case 8: return score.stickY;
            default: return NONE;
        }
    }

    // ---- when each begins

    public int begin(int beat) {
        if (score.beats == 0 || !within(beat, 0, score.beats) || beat > MOST_BEATS) {
            return NONE;
        }
        return score.begins[beat];
    }

    public int way(int player, int other) {
        if (!isPlayer(player) || !isPlayer(other)) {
            return NONE;
        }
        return wayBetween(stage.x[player] - stage.x[other], stage.y[player] - stage.y[other]);
    }

    public int entry(int player, int beat) {
        if (!isPlayer(player) || !isBeat(beat)) {
            return NO_SUCH;
        }
        playAsItIs();
        return play.at(player, beat);
    }

    public int spread(int beat) {
        if (!isBeat(beat)) {
            return NONE;
        }
        playAsItIs();
        return play.spreadAt(score, beat);
    }

    public int lag(int beat) {
        if (!isBeat(beat)) {
            return NO_SUCH;
        }
        playAsItIs();
        return play.lagAt(score, beat);
    }

    public int verdict(int e) {
        if (score.beats == 0 || !isOff(e)) {
            return NONE;
        }
        playAsItIs();
        return play.verdictBy(score, e);
    }

    public int guilty(int e, int what) {
        if (score.beats == 0 || !isOff(e) || !within(what, 0, 1)) {
            return NONE;
        }
        playAsItIs();
        if (play.verdictBy(score, e) == HOLDS) {
            return HOLDING;
        }
        for (int player = 0; player < score.players.count; player++) {
            for (int bit = STICK_BIT; bit <= HEARD_BIT; bit *= 2) {
                if ((stage.takenFrom(player) & bit) == 0 && holdsWithout(player, bit, e)) {
                    return what == 0 ? player : bit;
                }
            }
        }
        return NONE;
    }

    private boolean holdsWithout(int player, int bit, int e) {
        cast.fill(score, stage);
        cast.takeAlso(player, bit);
        play.run(score, cast);
        return play.verdictBy(score, e) == HOLDS;
    }

    private void playAsItIs() {
        cast.fill(score, stage);
        play.run(score, cast);
    }

    // ---- what is taken away, seats changed, both undone

    public boolean take(int player, int bits) {
        if (!isPlayer(player) || !within(bits, 0, ALL_BITS)) {
            return false;
        }
        stage.remember(player);
        stage.taken[player] = bits;
        return true;
    }

    public boolean seat(int player, int x, int y) {
        if (!isPlayer(player) || !within(x, 0, STAGE_EDGE) || !within(y, 0, STAGE_EDGE)) {
            return false;
        }
        stage.remember(player);
        stage.x[player] = x;
        stage.y[player] = y;
        return true;
    }

    public int undo() {
        return stage.goBack() ? stage.kept : NONE;
    }

    // ---- the hall

    public int sound(int player, int beat, int x, int y) {
        if (!isPlayer(player) || !isBeat(beat) || !isSeat(x, y)) {
            return NO_SUCH;
        }
        playAsItIs();
        play.hearFrom(score.players, cast, x, y);
        return play.at(player, beat) + play.late[player];
    }

    public long together(int x, int y, int a, int b) {
        if (!isSeat(x, y) || !isSpan(a, b)) {
            return NONE;
        }
        playAsItIs();
        return play.togetherIn(score, cast, x, y, a, b);
    }

    public long where(int a, int b, int what) {
        if (!isSpan(a, b) || !within(what, 0, 2)) {
            return NONE;
        }
        playAsItIs();
        int bestX = 0;
        int bestY = 0;
        long least = play.togetherIn(score, cast, 0, 0, a, b);
        for (int y = 0; y <= HALL_EDGE; y++) {
            for (int x = 0; x <= HALL_EDGE; x++) {
                long here = play.togetherIn(score, cast, x, y, a, b);
                if (here < least) {
                    least = here;
                    bestX = x;
                    bestY = y;
                }
            }
        }
        return what == 0 ? bestX : what == 1 ? bestY : least;
    }

    public int shift(int player, int x, int y) {
        if (!isPlayer(player) || !isSeat(x, y)) {
            return NONE;
        }
        cast.fill(score, stage);
        play.hearFrom(score.players, cast, x, y);
        int latest = 0;
        for (int other = 0; other < score.players.count && other < MOST_PLAYERS; other++) {
            latest = Math.max(latest, play.late[other]);
        }
        return latest - play.late[player];
    }

    public long order(int x, int y, int a, int b, int what) {
        int players = score.players.count;
        if (players == 0 || !isSeat(x, y) || !isSpan(a, b) || !within(what, 0, players)) {
            return NONE;
        }
        seating.settle(players);
        seating.keepIfLess(togetherSeated(x, y, a, b));
        if (players <= FEW_PLAYERS) {
            tryAllWays(x, y, a, b);
        } else {
            tryChanges(x, y, a, b);
        }
        return what == 0 ? seating.least : seating.placeOf(what - 1);
    }

    private void tryAllWays(int x, int y, int a, int b) {
        for (int tried = 1; tried < MOST_WAYS && seating.stepToNextWay(); tried++) {
            seating.keepIfLess(togetherSeated(x, y, a, b));
        }
    }

    private void tryChanges(int x, int y, int a, int b) {
        int players = score.players.count;
        boolean less = true;
        for (int changes = 0; changes < MOST_CHANGES && less; changes++) {
            long least = seating.least;
            for (int one = 0; one < players; one++) {
                for (int other = one + 1; other < players; other++) {
                    seating.change(one, other);
                    seating.keepIfLess(togetherSeated(x, y, a, b));
                    seating.change(one, other);
                }
            }
            less = seating.least < least;
            seating.goOnFromBest();
        }
    }

    private long togetherSeated(int x, int y, int a, int b) {
        cast.fill(score, stage);
        cast.sitBy(seating, stage);
        play.run(score, cast);
        return play.togetherIn(score, cast, x, y, a, b);
    }

    // ---- one wrong entry

    public int moved(int wrong, int beat, int v, int player, int m) {
        if (!isWrong(wrong, beat, v) || !isPlayer(player) || !isBeat(m)) {
            return NO_SUCH;
        }
        playWrong(wrong, beat, v);
        return movedAt(player, m);
    }

    public int far(int wrong, int beat, int v, int m) {
        if (!isWrong(wrong, beat, v) || !isBeat(m)) {
            return NONE;
        }
        playWrong(wrong, beat, v);
        return farAt(m);
    }

    public int ends(int wrong, int beat, int v) {
        if (!isWrong(wrong, beat, v)) {
            return REFUSED;
        }
        playWrong(wrong, beat, v);
        int end = NONE;
        for (int m = score.beats - 1; m >= beat && farAt(m) <= 1; m--) {
            end = m;
        }
        return end;
    }

    public int goes(int wrong, int beat, int v, int k, int e) {
        if (!isWrong(wrong, beat, v) || !within(k, 0, MOST_BEATS) || !isOff(e)) {
            return NONE;
        }
        playWrong(wrong, beat, v);
        int last = Math.min(beat + k, score.beats - 1);
        int bits = 0;
        for (int m = beat; m <= last; m++) {
            for (int player = 0; player < score.players.count; player++) {
                if (Math.abs(movedAt(player, m)) > e) {
                    bits |= 1 << player;
                }
            }
        }
        return bits;
    }

    private void playWrong(int wrong, int beat, int v) {
        cast.fill(score, stage);
        without.run(score, cast);
        cast.wrongPlayer = wrong;
        cast.wrongBeat = beat;
        cast.wrongBy = v;
        play.run(score, cast);
    }

    private int movedAt(int player, int beat) {
        return play.at(player, beat) - without.at(player, beat);
    }

    private int farAt(int beat) {
        int far = 0;
        for (int player = 0; player < score.players.count; player++) {
            far = Math.max(far, Math.abs(movedAt(player, beat)));
        }
        return far;
    }

    public int by(int player) {
        if (!isPlayer(player)) {
            return NONE;
        }
        cast.fill(score, stage);
        cast.weighUp(score);
        int found = cast.linksOf(player);
        // A chain of links has no more of them than there are PLAYERS.
        for (int round = 0; round < MOST_PLAYERS; round++) {
            for (int other = 0; other < score.players.count; other++) {
                if ((found >> other & 1) == 1) {
                    found |= cast.linksOf(other);
                }
            }
        }
        return found;
    }

    // ---- films

    public int film(int player, int beat, int time) {
        if (!isPlayer(player) || !isBeat(beat) || !within(time, -MOST_TIME, MOST_TIME)) {
            return NONE;
        }
        return notes.addEntry(player, beat, time);
    }

    public int strike(int note) {
        return notes.addStrike(note);
    }

    public boolean known(int n) {
        if (!within(n, NONE, notes.count)) {
            return false;
        }
        notes.limit = n;
        return true;
    }

    public int fits(int player, int d) {
        if (!isPlayer(player) || !isOff(d)) {
            return NONE;
        }
        return lawsThatFit(player, d);
    }

    public int next(int player, int d, int what) {
        if (!isPlayer(player) || !isOff(d) || !within(what, 0, 1)) {
            return NONE;
        }
        int laws = lawsThatFit(player, d);
        if (Integer.bitCount(laws) < 2) {
            return NONE;
        }
        int best = 0;
        int least = MOST_LAWS + 1;
        for (int bit = STICK_BIT; bit <= HEARD_BIT; bit *= 2) {
            int group = greatestGroup(player, laws, bit);
            if (group < least) {
                least = group;
                best = bit;
            }
        }
        return what == 0 ? best : least;
    }

    private int lawsThatFit(int player, int d) {
        notes.judge();
        int laws = 0;
        for (int law = 0; law < score.laws.count && law < MOST_LAWS; law++) {
            playWithLaw(player, law, 0);
            if (notes.isNear(play, player, d)) {
                laws |= 1 << law;
            }
        }
        return laws;
    }

    private void playWithLaw(int player, int law, int bit) {
        cast.fill(score, stage);
        cast.takeAlso(player, bit);
        cast.goByLaw(player, law);
        play.run(score, cast);
    }

    private int greatestGroup(int player, int laws, int bit) {
        int greatest = 0;
        for (int law = 0; law < score.laws.count && law < MOST_LAWS; law++) {
            if ((laws >> law & 1) == 0) {
                continue;
            }
            playWithLaw(player, law, bit);
            keepEntries(player, law);
            // The last LAW of a group finds all others of it among those ahead.
            greatest = Math.max(greatest, countAlike(laws, law));
        }
        return greatest;
    }

    private void keepEntries(int player, int law) {
        if (!score.laws.has(law)) {
            return;
        }
        for (int beat = 0; beat < score.beats && beat < MOST_BEATS; beat++) {
            lawEntries[law * MOST_BEATS + beat] = play.at(player, beat);
        }
    }

    private int countAlike(int laws, int law) {
        int alike = 0;
        for (int other = 0; other <= law; other++) {
            if ((laws >> other & 1) == 1 && areAlike(law, other)) {
                alike++;
            }
        }
        return alike;
    }

    private boolean areAlike(int law, int other) {
        if (!score.laws.has(law) || !score.laws.has(other)) {
            return false;
        }
        for (int beat = 0; beat < score.beats && beat < MOST_BEATS; beat++) {
            if (lawEntries[law * MOST_BEATS + beat] != lawEntries[other * MOST_BEATS + beat]) {
                return false;
            }
        }
        return true;
    }

    // ---- pauses, pairs, doubt and chance

    public int pause(int player, int what) {
        if (!isPlayer(player) || !within(what, 0, 1)) {
            return NONE;
        }
        int all = 0;
        for (int other = 0; other < score.players.count && other < MOST_PLAYERS; other++) {
            all += score.players.dares[other];
        }
        int his = score.players.dares[player];
        int divisor = greatestDivisor(all, his);
        if (divisor == 0) {
            return 0;
        }
        return (what == 0 ? his : all) / divisor;
    }

    private static int greatestDivisor(int a, int b) {
        int whole = a;
        int part = b;
        for (int step = 0; step < 64 && part != 0; step++) {
            int rest = whole % part;
            whole = part;
            part = rest;
        }
        return whole;
    }

    public int two(int first, int second, int n) {
        if (!isPlayer(first) || !isPlayer(second) || first == second || n <= 1 || !isBeat(n)) {
            return NO_SUCH;
        }
        cast.fill(score, stage);
        cast.leaveWith(first, second);
        cast.leaveWith(second, first);
        play.run(score, cast);
        return (int) (play.paceAt(score, first, n) - play.paceAt(score, first, 1));
    }

    public int clear(int what) {
        if (score.players.count == 0 || !within(what, 0, 1)) {
            return NO_SUCH;
        }
        // The sum turns only at a HABIT, so the least k is one of the HABITS.
        int best = habitOf(0);
        int least = doubtAt(best);
        for (int player = 1; player < score.players.count; player++) {
            int k = habitOf(player);
            int doubt = doubtAt(k);
            if (doubt < least || doubt == least && k < best) {
                best = k;
                least = doubt;
            }
        }
        return what == 0 ? best : least;
    }

    private int habitOf(int player) {
        return isPlayer(player) ? score.laws.habitBy(score.players.law[player]) : 0;
    }

    private int doubtAt(int k) {
        int sum = 0;
        for (int player = 0; player < score.players.count; player++) {
            sum += Math.abs(habitOf(player) - k);
        }
        return sum;
    }

    public int draws(int seed, int many, int j, int e) {
        if (score.beats == 0 || seed < 0 || !within(many, 1, MOST_DRAWS)
                || !within(j, 0, MOST_JITTER) || !isOff(e)) {
            return NONE;
        }
        cast.fill(score, stage);
        cast.lastNumber = seed;
        cast.jitter = j;
        int holding = 0;
        for (int draw = 0; draw < many; draw++) {
            play.run(score, cast);
            if (play.verdictBy(score, e) == HOLDS) {
                holding++;
            }
        }
        return holding;
    }

    // ---- what may be asked for

    private boolean isPlayer(int player) {
        return player >= 0 && player < score.players.count && player < MOST_PLAYERS;
    }

    private boolean isBeat(int beat) {
        return beat >= 0 && beat < score.beats && beat < MOST_BEATS;
    }

    private boolean isSpan(int a, int b) {
        return a >= 0 && b >= a && b < score.beats;
    }

    private boolean isWrong(int player, int beat, int v) {
        return isPlayer(player) && isBeat(beat) && v != 0 && within(v, -MOST_WRONG_BY, MOST_WRONG_BY);
    }

    private static boolean isSeat(int x, int y) {
        return within(x, 0, HALL_EDGE) && within(y, 0, HALL_EDGE);
    }

    private static boolean isOff(int e) {
        return within(e, 0, MOST_OFF);
    }

    private static boolean within(int n, int least, int most) {
        return n >= least && n <= most;
    }

    private static int find(int[] names, int count, int name) {
        for (int i = 0; i < count && i < names.length; i++) {
            if (names[i] == name) {
                return i;
            }
        }
        return NONE;
    }

    private static int wayBetween(int dx, int dy) {
        int square = 9 * (dx * dx + dy * dy);
        int root = 0;
        for (int bit = 128; bit > 0; bit /= 2) {
            if ((root + bit) * (root + bit) <= square) {
                root += bit;
            }
        }
        return root;
    }

    /** The bytes that were fed, and the TOKENS of the first ones, one at a time. */
    private static final class Tape {

        static final int END = 0;
        static final int FOREIGN = 1;
        static final int NUMBER = 2;
        static final int NAME = 3;
        static final int MINUS = 4;
        static final int SEMICOLON = 5;
        // The words of the language, numbered as they stand in WORDS.
        static final int STICK = 6;
        static final int BEAT = 7;
        static final int TIMES = 8;
        static final int PAUSE = 9;
        static final int LAW = 10;
        static final int AHEAD = 11;
        static final int PLAYER = 12;
        static final int SEES = 13;
        static final int HEARS = 14;
        static final int DARES = 15;
        static final int WRONG = 16;

        // One blank behind each.
        private static final String WORDS =
                "stick beat times pause law ahead player sees hears dares wrong ";
        private static final int WORD_COUNT = 11;
        private static final int MOST_LETTERS = 6;
        private static final int LETTER_BITS = 5;
        // Above every number that a TEXT may tell, so that more digits need no room.
        private static final int TOO_GREAT = 1000000;

        private final int[] bytes;
        private final int[] words;
        int count;
        private int length;
        private int next;
        int kind;
        int place;
        int value;

        /** The words of the language are read as a TEXT is, so that both have the same codes. */
        Tape() {
            bytes = new int[MOST_BYTES];
            words = new int[WORD_COUNT];
            for (int i = 0; i < WORDS.length() && i < MOST_BYTES; i++) {
                bytes[i] = WORDS.charAt(i);
                length = i + 1;
            }
            for (int word = 0; word < WORD_COUNT; word++) {
                value = 0;
                stepOverLetters();
                words[word] = value;
                next++;
            }
        }

        boolean hasRoom(int more) {
            return count + more <= MOST_BYTES;
        }

        void append(int number) {
            for (int shift = 24; shift >= 0 && count < MOST_BYTES; shift -= 8) {
                bytes[count] = number >> shift & 255;
                count++;
            }
        }

        void open(int first) {
            length = Math.min(first, Math.min(count, MOST_BYTES));
            next = 0;
            step();
        }

        void step() {
            while (next < length && (bytes[next] == ' ' || bytes[next] == '\n')) {
                next++;
            }
            place = next;
            value = 0;
            int letters = stepOverLetters();
            if (letters > 0) {
                int word = find(words, WORD_COUNT, value);
                kind = letters > MOST_LETTERS ? FOREIGN : word == NONE ? NAME : STICK + word;
            } else if (stepOverDigits() > 0) {
                kind = NUMBER;
            } else if (next < length) {
                kind = bytes[next] == '-' ? MINUS : bytes[next] == ';' ? SEMICOLON : FOREIGN;
                next++;
            } else {
                kind = END;
            }
        }

        private int stepOverLetters() {
            int letters = 0;
            while (next < length && bytes[next] >= 'a' && bytes[next] <= 'z') {
                if (letters < MOST_LETTERS) {
                    value |= bytes[next] - 'a' + 1 << LETTER_BITS * (MOST_LETTERS - 1 - letters);
                }
                letters++;
                next++;
            }
            return letters;
        }

        private int stepOverDigits() {
            int digits = 0;
            while (next < length && bytes[next] >= '0' && bytes[next] <= '9') {
                value = Math.min(value * 10 + bytes[next] - '0', TOO_GREAT);
                digits++;
                next++;
            }
            return digits;
        }
    }

    /** Reads a TEXT into a score, up to its first FAULT. */
    private static final class Parser {

        private static final int CANNOT_STAND = 1;
        private static final int TOO_MUCH = 2;
        private static final int TOLD_ALREADY = 3;
        private static final int NOT_TOLD_AHEAD = 4;
        private static final int NO_BEAT = 5;
        private static final int NO_OTHER = 6;

        private static final int LEAST_LENGTH = 100;
        private static final int MOST_LENGTH = 4000;
        private static final int MOST_PAUSE = 9999;
        private static final int MOST_WEIGHT = 9;
        private static final int MOST_HABIT = 500;
        private static final int MOST_SPEAK = 300;
        private static final int MOST_DARES = 99;

        final Tape tape;
        private final Links links;
        int fault;
        int place;
        int lines;
        private int number;
        private int name;
        private boolean daresTold;

        Parser() {
            tape = new Tape();
            links = new Links();
            place = NONE;
        }

        boolean parse(int length, Score into) {
            start(length, into);
            for (int i = 0; i < MOST_BYTES && tape.kind != Tape.END; i++) {
                boolean good;
                switch (tape.kind) {
                    case Tape.STICK: good = readStick(into); break;
                    case Tape.BEAT: good = readBeat(into); break;
                    case Tape.PAUSE: good = readPause(into); break;
                    case Tape.LAW: good = readLaw(into.laws); break;
                    case Tape.PLAYER: good = readPlayer(into) && readHabits(into.players); break;
                    case Tape.WRONG: good = readWrong(into); break;
                    default: good = fail(CANNOT_STAND);
                }
                if (!good || !readEnd()) {
                    return false;
                }
                lines++;
            }
            return resolveLinks(into.players);
        }

        private void start(int length, Score into) {
            fault = 0;
            place = NONE;
            lines = 0;
            links.count = 0;
            into.wipe();
            tape.open(length);
        }

        private boolean readStick(Score into) {
            if (into.stickTold) {
                return fail(TOLD_ALREADY);
            }
            tape.step();
            if (!readNumber(0, STAGE_EDGE)) {
                return false;
            }
            into.stickX = number;
            if (!readNumber(0, STAGE_EDGE)) {
                return false;
            }
            into.stickY = number;
            into.stickTold = true;
            return true;
        }

        private boolean readBeat(Score into) {
            if (into.beats >= MOST_BEATS) {
                return fail(TOO_MUCH);
            }
            tape.step();
            if (!readNumber(LEAST_LENGTH, MOST_LENGTH)) {
                return false;
            }
            int length = number;
            int times = 1;
            if (tape.kind == Tape.TIMES) {
                tape.step();
                if (!readNumber(1, MOST_BEATS - into.beats)) {
                    return false;
                }
                times = number;
            }
            into.addBeats(length, times);
            return true;
        }

        private boolean readPause(Score into) {
            if (into.beats == 0) {
                return fail(NO_BEAT);
            }
            tape.step();
            if (!readNumber(0, MOST_PAUSE)) {
                return false;
            }
            into.lengthen(number);
            return true;
        }

        private boolean readLaw(Laws laws) {
            int law = laws.count;
            if (law >= MOST_LAWS) {
                return fail(TOO_MUCH);
            }
            tape.step();
            if (!readNewName(laws.names, law)) {
                return false;
            }
            laws.names[law] = name;
            for (int what = 0; what < WEIGHT_COUNT; what++) {
                if (!readNumber(0, MOST_WEIGHT)) {
                    return false;
                }
                laws.weights[law * WEIGHT_COUNT + what] = number;
            }
            if (!readNumber(-MOST_HABIT, MOST_HABIT)) {
                return false;
            }
            laws.habit[law] = number;
            laws.ahead[law] = tape.kind == Tape.AHEAD;
            if (laws.ahead[law]) {
                tape.step();
            }
            laws.count++;
            return true;
        }

        private boolean readPlayer(Score into) {
            Players players = into.players;
            int player = players.count;
            if (player >= MOST_PLAYERS) {
                return fail(TOO_MUCH);
            }
            tape.step();
            if (!readNewName(players.names, player)) {
                return false;
            }
            players.add(name);
            if (!readToldName(into.laws.names, into.laws.count)) {
                return false;
            }
            players.law[player] = number;
            if (!readNumber(0, STAGE_EDGE)) {
                return false;
            }
            players.x[player] = number;
            if (!readNumber(0, STAGE_EDGE)) {
                return false;
            }
            players.y[player] = number;
            if (!readNumber(0, MOST_SPEAK)) {
                return false;
            }
            players.speak[player] = number;
            return true;
        }

        /** What the last PLAYER sees, hears and dares, in any order. */
        private boolean readHabits(Players players) {
            int player = players.count - 1;
            daresTold = false;
            for (int i = 0; i < MOST_BYTES; i++) {
                boolean good;
                if (tape.kind == Tape.SEES || tape.kind == Tape.HEARS) {
                    good = readLink(player);
                } else if (tape.kind == Tape.DARES) {
                    good = readDares(player, players);
                } else {
                    return true;
                }
                if (!good) {
                    return false;
                }
            }
            return true;
        }

        private boolean readDares(int player, Players players) {
            if (daresTold) {
                return fail(TOLD_ALREADY);
            }
            daresTold = true;
            tape.step();
            if (!readNumber(0, MOST_DARES)) {
                return false;
            }
            players.dare(player, number);
            return true;
        }

        private boolean readLink(int player) {
            int kind = tape.kind;
            if (!links.hasRoomFor(player, kind)) {
                return fail(TOO_MUCH);
            }
            tape.step();
            if (tape.kind != Tape.NAME) {
                return fail(CANNOT_STAND);
            }
            if (links.has(player, kind, tape.value)) {
                return fail(TOLD_ALREADY);
            }
            links.add(player, kind, tape.value, tape.place);
            tape.step();
            return true;
        }

        private boolean readWrong(Score into) {
            if (into.wrongs >= MOST_WRONG) {
                return fail(TOO_MUCH);
            }
            tape.step();
            if (!readToldName(into.players.names, into.players.count)) {
                return false;
            }
            int player = number;
            if (!readNumber(0, MOST_BEATS - 1)) {
                return false;
            }
            int beat = number;
            if (!readNumber(-MOST_WRONG_BY, MOST_WRONG_BY)) {
                return false;
            }
            into.addWrong(player, beat, number);
            return true;
        }

        private boolean readNewName(int[] names, int count) {
            if (tape.kind != Tape.NAME) {
                return fail(CANNOT_STAND);
            }
            if (find(names, count, tape.value) != NONE) {
                return fail(TOLD_ALREADY);
            }
            name = tape.value;
            tape.step();
            return true;
        }

        private boolean readToldName(int[] names, int count) {
            if (tape.kind != Tape.NAME) {
                return fail(CANNOT_STAND);
            }
            int found = find(names, count, tape.value);
            if (found == NONE) {
                return fail(NOT_TOLD_AHEAD);
            }
            number = found;
            tape.step();
            return true;
        }

        /** A number; with a sign ahead of it, if it may be below 0. */
        private boolean readNumber(int least, int most) {
            boolean below = least < 0 && tape.kind == Tape.MINUS;
            if (below) {
                tape.step();
            }
            if (tape.kind != Tape.NUMBER) {
                return fail(CANNOT_STAND);
            }
            number = below ? -tape.value : tape.value;
            if (!within(number, least, most)) {
                return fail(TOO_MUCH);
            }
            tape.step();
            return true;
        }

        private boolean readEnd() {
            if (tape.kind != Tape.SEMICOLON) {
                return fail(CANNOT_STAND);
            }
            tape.step();
            return true;
        }

        private boolean fail(int why) {
            return failAt(why, tape.place);
        }

        private boolean failAt(int why, int where) {
            fault = why;
            place = where;
            return false;
        }

        /** Only the whole TEXT tells who is a PLAYER, so links are looked up when it has been read. */
        private boolean resolveLinks(Players players) {
            for (int i = 0; i < links.count && i < Links.MOST; i++) {
                int player = links.player[i];
                int other = find(players.names, players.count, links.name[i]);
                if (other == NONE || other == player) {
                    return failAt(NO_OTHER, links.place[i]);
                }
                players.link(player, links.kind[i] == Tape.SEES, other);
            }
            return true;
        }
    }

    /** Who sees or hears whom, by names, along the TEXT. */
    private static final class Links {

        static final int MOST = MOST_PLAYERS * MOST_LINKS * 2;

        int count;
        final int[] player;
        final int[] kind;
        final int[] name;
        final int[] place;

        Links() {
            player = new int[MOST];
            kind = new int[MOST];
            name = new int[MOST];
            place = new int[MOST];
        }

        boolean hasRoomFor(int who, int how) {
            int told = 0;
            for (int i = 0; i < count && i < MOST; i++) {
                if (player[i] == who && kind[i] == how) {
                    told++;
                }
            }
            return told < MOST_LINKS && count < MOST;
        }

        boolean has(int who, int how, int whom) {
            for (int i = 0; i < count && i < MOST; i++) {
                if (player[i] == who && kind[i] == how && name[i] == whom) {
                    return true;
                }
            }
            return false;
        }

        void add(int who, int how, int whom, int at) {
            if (count < 0 || count >= MOST) {
                return;
            }
            player[count] = who;
            kind[count] = how;
            name[count] = whom;
            place[count] = at;
            count++;
        }
    }

    /** What a TEXT tells. */
    private static final class Score {

        private static final int STICK_X = 15;
        private static final int STICK_Y = 0;

        final Laws laws;
        final Players players;
        boolean stickTold;
        int stickX;
        int stickY;
        int beats;
        final int[] begins;
        int wrongs;
        private final int[] wrongPlayer;
        private final int[] wrongBeat;
        private final int[] wrongBy;

        Score() {
            laws = new Laws();
            players = new Players();
            stickX = STICK_X;
            stickY = STICK_Y;
            begins = new int[MOST_BEATS + 1];
            wrongPlayer = new int[MOST_WRONG];
            wrongBeat = new int[MOST_WRONG];
            wrongBy = new int[MOST_WRONG];
        }

        void wipe() {
            laws.count = 0;
            players.count = 0;
            stickTold = false;
            stickX = STICK_X;
            stickY = STICK_Y;
            beats = 0;
            wrongs = 0;
        }

        void addBeats(int length, int times) {
            for (int i = 0; i < times && beats < MOST_BEATS; i++) {
                begins[beats + 1] = begins[beats] + length;
                beats++;
            }
        }

        void lengthen(int more) {
            if (beats > 0 && beats <= MOST_BEATS) {
                begins[beats] += more;
            }
        }

        void addWrong(int player, int beat, int by) {
            if (wrongs < 0 || wrongs >= MOST_WRONG) {
                return;
            }
            wrongPlayer[wrongs] = player;
            wrongBeat[wrongs] = beat;
            wrongBy[wrongs] = by;
            wrongs++;
        }

        int wrongAt(int player, int beat) {
            int sum = 0;
            for (int i = 0; i < wrongs && i < MOST_WRONG; i++) {
                if (wrongPlayer[i] == player && wrongBeat[i] == beat) {
                    sum += wrongBy[i];
                }
            }
            return sum;
        }
    }

    private static final class Laws {

        int count;
        final int[] names;
        final int[] weights;
        final int[] habit;
        final boolean[] ahead;

        Laws() {
            names = new int[MOST_LAWS];
            weights = new int[MOST_LAWS * WEIGHT_COUNT];
            habit = new int[MOST_LAWS];
            ahead = new boolean[MOST_LAWS];
        }

        boolean has(int law) {
            return law >= 0 && law < count && law < MOST_LAWS;
        }

        int weight(int law, int what) {
            return has(law) && what >= 0 && what < WEIGHT_COUNT ? weights[law * WEIGHT_COUNT + what] : 0;
        }

        int habitBy(int law) {
            return has(law) ? habit[law] : 0;
        }

        boolean isAhead(int law) {
            return has(law) && ahead[law];
        }
    }

    /** The PLAYERS as they are told; where they sit now and what is TAKEN, the stage knows. */
    private static final class Players {

        int count;
        final int[] names;
        final int[] law;
        final int[] x;
        final int[] y;
        final int[] speak;
        final int[] dares;
        final int[] sees;
        final int[] hears;

        Players() {
            names = new int[MOST_PLAYERS];
            law = new int[MOST_PLAYERS];
            x = new int[MOST_PLAYERS];
            y = new int[MOST_PLAYERS];
            speak = new int[MOST_PLAYERS];
            dares = new int[MOST_PLAYERS];
            sees = new int[MOST_PLAYERS];
            hears = new int[MOST_PLAYERS];
        }

        void add(int name) {
            if (count < 0 || count >= MOST_PLAYERS) {
                return;
            }
            names[count] = name;
            dares[count] = 0;
            sees[count] = 0;
            hears[count] = 0;
            count++;
        }

        void dare(int player, int odds) {
            if (player >= 0 && player < count) {
                dares[player] = odds;
            }
        }

        void link(int player, boolean byEye, int other) {
            if (player < 0 || player >= count) {
                return;
            }
            if (byEye) {
                sees[player] |= 1 << other;
            } else {
                hears[player] |= 1 << other;
            }
        }
    }

    /** PLACES and what is TAKEN, and how both were ahead of the last changes. */
    private static final class Stage {

        final int[] x;
        final int[] y;
        final int[] taken;
        int kept;
        private int top;
        private final int[] oldPlayer;
        private final int[] oldX;
        private final int[] oldY;
        private final int[] oldTaken;

        Stage() {
            x = new int[MOST_PLAYERS];
            y = new int[MOST_PLAYERS];
            taken = new int[MOST_PLAYERS];
            oldPlayer = new int[MOST_UNDO];
            oldX = new int[MOST_UNDO];
            oldY = new int[MOST_UNDO];
            oldTaken = new int[MOST_UNDO];
        }

        void settle(Players players) {
            for (int player = 0; player < MOST_PLAYERS; player++) {
                x[player] = players.x[player];
                y[player] = players.y[player];
                taken[player] = 0;
            }
            kept = 0;
            top = 0;
        }

        int takenFrom(int player) {
            return player >= 0 && player < MOST_PLAYERS ? taken[player] : 0;
        }

        /** The rows go round, so that the oldest change is forgotten when there are too many. */
        void remember(int player) {
            if (player < 0 || player >= MOST_PLAYERS || top < 0 || top >= MOST_UNDO) {
                return;
            }
            oldPlayer[top] = player;
            oldX[top] = x[player];
            oldY[top] = y[player];
            oldTaken[top] = taken[player];
            top = (top + 1) % MOST_UNDO;
            kept = Math.min(kept + 1, MOST_UNDO);
        }

        boolean goBack() {
            if (kept <= 0 || top < 0) {
                return false;
            }
            top = (top + MOST_UNDO - 1) % MOST_UNDO;
            kept--;
            int player = oldPlayer[top];
            if (player >= 0 && player < MOST_PLAYERS) {
                x[player] = oldX[top];
                y[player] = oldY[top];
                taken[player] = oldTaken[top];
            }
            return true;
        }
    }

    /** What a play is played with: first all as it is, then what a call wants to be otherwise. */
    private static final class Cast {

        private static final long FACTOR = 1103515245L;
        private static final long SUMMAND = 12345L;
        private static final long LOW_31_BITS = 0x7fffffffL;
        private static final int DIVISOR = 65536;

        final int[] x;
        final int[] y;
        private final int[] law;
        private final int[] taken;
        final int[] sees;
        final int[] hears;
        private final int[] weights;
        private final int[] lead;
        private final int[] stickLate;
        int wrongPlayer;
        int wrongBeat;
        int wrongBy;
        int jitter;
        int lastNumber;

        Cast() {
            x = new int[MOST_PLAYERS];
            y = new int[MOST_PLAYERS];
            law = new int[MOST_PLAYERS];
            taken = new int[MOST_PLAYERS];
            sees = new int[MOST_PLAYERS];
            hears = new int[MOST_PLAYERS];
            weights = new int[MOST_PLAYERS * WEIGHT_COUNT];
            lead = new int[MOST_PLAYERS];
            stickLate = new int[MOST_PLAYERS];
        }

        void fill(Score score, Stage stage) {
            for (int player = 0; player < MOST_PLAYERS; player++) {
                x[player] = stage.x[player];
                y[player] = stage.y[player];
                law[player] = score.players.law[player];
                taken[player] = stage.taken[player];
                sees[player] = score.players.sees[player];
                hears[player] = score.players.hears[player];
            }
            wrongPlayer = NONE;
            wrongBeat = NONE;
            wrongBy = 0;
            jitter = 0;
        }

        void takeAlso(int player, int bit) {
            if (has(player)) {
                taken[player] |= bit;
            }
        }

        void goByLaw(int player, int other) {
            if (has(player)) {
                law[player] = other;
            }
        }

        void leaveWith(int player, int other) {
            if (has(player)) {
                taken[player] |= STICK_BIT;
                sees[player] &= 1 << other;
                hears[player] &= 1 << other;
            }
        }

        void sitBy(Seating seating, Stage stage) {
            for (int player = 0; player < MOST_PLAYERS; player++) {
                int whose = seating.now[player];
                if (has(whose)) {
                    x[player] = stage.x[whose];
                    y[player] = stage.y[whose];
                }
            }
        }

        /** Makes ready what LAWS and takings come to, once all is as the call wants it. */
        void weighUp(Score score) {
            Laws laws = score.laws;
            for (int player = 0; player < MOST_PLAYERS; player++) {
                for (int what = 0; what < WEIGHT_COUNT; what++) {
                    boolean isTaken = (taken[player] >> what & 1) == 1;
                    weights[player * WEIGHT_COUNT + what] = isTaken ? 0 : laws.weight(law[player], what);
                }
                lead[player] = laws.isAhead(law[player]) ? score.players.speak[player] : 0;
                stickLate[player] = laws.habitBy(law[player]) - lead[player];
            }
        }

        int weight(int player, int what) {
            boolean inside = has(player) && what >= 0 && what < WEIGHT_COUNT;
            return inside ? weights[player * WEIGHT_COUNT + what] : 0;
        }

        int linksOf(int player) {
            if (!has(player)) {
                return 0;
            }
            int bySight = weight(player, BY_SEEN) > 0 ? sees[player] : 0;
            int byEar = weight(player, BY_HEARD) > 0 ? hears[player] : 0;
            return bySight | byEar;
        }

        int wrongAt(int player, int beat) {
            return player == wrongPlayer && beat == wrongBeat ? wrongBy : 0;
        }

        int drawLate() {
            if (jitter <= 0) {
                return 0;
            }
            lastNumber = (int) (lastNumber * FACTOR + SUMMAND & LOW_31_BITS);
            return lastNumber / DIVISOR % (2 * jitter + 1) - jitter;
        }

        private static boolean has(int player) {
            return player >= 0 && player < MOST_PLAYERS;
        }
    }

    /** The ENTRIES of all PLAYERS at all BEATS, and what they come to. */
    private static final class Play {

        private final int[] times;
        private final int[] ways;
        private final int[] nothing;
        final int[] late;
        private long said;
        private long weighed;

        Play() {
            times = new int[MOST_BEATS * MOST_PLAYERS];
            ways = new int[MOST_PLAYERS * MOST_PLAYERS];
            nothing = new int[MOST_PLAYERS];
            late = new int[MOST_PLAYERS];
        }

        void run(Score score, Cast cast) {
            cast.weighUp(score);
            measureWays(cast);
            int players = Math.min(score.players.count, MOST_PLAYERS);
            int beats = Math.min(score.beats, MOST_BEATS);
            for (int beat = 0; beat < beats; beat++) {
                for (int player = 0; player < players; player++) {
                    long stick = (long) score.begins[beat] + cast.stickLate[player];
                    long time = beat == 0 ? stick : weigh(score, cast, player, beat, stick);
                    time += score.wrongAt(player, beat) + cast.wrongAt(player, beat) + cast.drawLate();
                    times[beat * MOST_PLAYERS + player] = (int) Math.max(-BOUND, Math.min(BOUND, time));
                }
            }
        }

        private void measureWays(Cast cast) {
            for (int player = 0; player < MOST_PLAYERS; player++) {
                for (int other = 0; other < MOST_PLAYERS; other++) {
                    ways[player * MOST_PLAYERS + other] =
                            wayBetween(cast.x[player] - cast.x[other], cast.y[player] - cast.y[other]);
                }
            }
        }

        private long weigh(Score score, Cast cast, int player, int beat, long stick) {
            long pace = paceAt(score, player, beat);
            long own = at(player, beat - 1) + pace;
            int seen = cast.weight(player, BY_SEEN);
            int heard = cast.weight(player, BY_HEARD);
            said = 0;
            weighed = 0;
            say(cast.weight(player, BY_STICK), stick);
            say(cast.weight(player, BY_OWN), own);
            for (int other = 0; other < score.players.count && other < MOST_PLAYERS; other++) {
                long his = at(other, beat - 1) + pace;
                if ((cast.sees[player] >> other & 1) == 1) {
                    say(seen, his);
                }
                if ((cast.hears[player] >> other & 1) == 1) {
                    int late = score.players.speak[other] + ways[player * MOST_PLAYERS + other];
                    say(heard, his + late - cast.lead[player]);
                }
            }
            return weighed == 0 ? own : Math.floorDiv(said, weighed);
        }

        private void say(int weight, long time) {
            said += weight * time;
            weighed += weight;
        }

        long paceAt(Score score, int player, int beat) {
            if (beat <= 1) {
                return score.begins[1];
            }
            return (long) at(player, beat - 1) - at(player, beat - 2);
        }

        int at(int player, int beat) {
            if (player < 0 || player >= MOST_PLAYERS || beat < 0 || beat >= MOST_BEATS) {
                return 0;
            }
            return times[beat * MOST_PLAYERS + player];
        }

        int spreadAt(Score score, int beat) {
            return widthAt(score, beat, nothing);
        }

        /** Reads its row straight: where() comes here for each BEAT in each seat of the hall. */
        private int widthAt(Score score, int beat, int[] later) {
            if (score.players.count == 0 || beat < 0 || beat >= MOST_BEATS) {
                return 0;
            }
            int row = beat * MOST_PLAYERS;
            int players = Math.min(score.players.count, MOST_PLAYERS);
            int earliest = Integer.MAX_VALUE;
            int latest = Integer.MIN_VALUE;
            for (int player = 0; player < players && player < later.length; player++) {
                int time = times[row + player] + later[player];
                if (time < earliest) {
                    earliest = time;
                }
                if (time > latest) {
                    latest = time;
                }
            }
            return latest - earliest;
        }

        int lagAt(Score score, int beat) {
            int players = score.players.count;
            if (players == 0 || beat < 0 || beat >= MOST_BEATS) {
                return 0;
            }
            long sum = 0;
            for (int player = 0; player < players; player++) {
                sum += at(player, beat) - score.begins[beat];
            }
            return (int) Math.floorDiv(sum, (long) players);
        }

        int verdictBy(Score score, int e) {
            int last = score.beats - 1;
            int first = Math.max(last - VERDICT_BEATS, 0);
            if (spreadAt(score, last) - spreadAt(score, first) > e) {
                return APART;
            }
            int growth = lagAt(score, last) - lagAt(score, first);
            return growth > e ? DRAGS : growth < -e ? RUSHES : HOLDS;
        }

        /** How late each PLAYER sounds in a seat, behind his ENTRY. */
        void hearFrom(Players players, Cast cast, int x, int y) {
            for (int player = 0; player < players.count && player < MOST_PLAYERS; player++) {
                late[player] = players.speak[player] + wayBetween(cast.x[player] - x, cast.y[player] - y);
            }
        }

        long togetherIn(Score score, Cast cast, int x, int y, int a, int b) {
            hearFrom(score.players, cast, x, y);
            long sum = 0;
            for (int beat = a; beat <= b && beat < MOST_BEATS; beat++) {
                sum += widthAt(score, beat, late);
            }
            return sum;
        }
    }

    /** NOTES in their row: an ENTRY of a PLAYER, or a STRIKE of a NOTE ahead of it. */
    private static final class Film {

        int count;
        int limit;
        private final int[] player;
        private final int[] beat;
        private final int[] time;
        private final int[] strikes;
        private final boolean[] struck;

        Film() {
            limit = NONE;
            player = new int[MOST_NOTES];
            beat = new int[MOST_NOTES];
            time = new int[MOST_NOTES];
            strikes = new int[MOST_NOTES];
            struck = new boolean[MOST_NOTES];
        }

        void wipe() {
            count = 0;
            limit = NONE;
        }

        int knownCount() {
            return limit == NONE ? count : limit;
        }

        int addEntry(int who, int at, int when) {
            return add(who, at, when, NONE);
        }

        int addStrike(int note) {
            return note >= 0 && note < count ? add(NONE, NONE, 0, note) : NONE;
        }

        private int add(int who, int at, int when, int note) {
            if (count < 0 || count >= MOST_NOTES) {
                return NONE;
            }
            player[count] = who;
            beat[count] = at;
            time[count] = when;
            strikes[count] = note;
            count++;
            return count - 1;
        }

        /** From the last one on, for a STRIKE strikes only what stands ahead of it. */
        void judge() {
            for (int note = 0; note < MOST_NOTES; note++) {
                struck[note] = false;
            }
            for (int note = Math.min(knownCount(), MOST_NOTES) - 1; note >= 0; note--) {
                int other = strikes[note];
                if (!struck[note] && other >= 0 && other < MOST_NOTES) {
                    struck[other] = true;
                }
            }
        }

        boolean isNear(Play play, int who, int off) {
            for (int note = 0; note < knownCount() && note < MOST_NOTES; note++) {
                if (player[note] == who && !struck[note]
                        && Math.abs(play.at(who, beat[note]) - time[note]) > off) {
                    return false;
                }
            }
            return true;
        }
    }

    /** Ways to change PLACES: for each PLAYER the number of him whose PLACE he has. */
    private static final class Seating {

        private int count;
        final int[] now;
        private final int[] best;
        long least;

        Seating() {
            now = new int[MOST_PLAYERS];
            best = new int[MOST_PLAYERS];
        }

        void settle(int players) {
            count = Math.min(players, MOST_PLAYERS);
            least = Long.MAX_VALUE;
            for (int player = 0; player < MOST_PLAYERS; player++) {
                now[player] = player;
            }
        }

        void keepIfLess(long amount) {
            if (amount < least) {
                least = amount;
                System.arraycopy(now, 0, best, 0, MOST_PLAYERS);
            }
        }

        int placeOf(int player) {
            return player >= 0 && player < MOST_PLAYERS ? best[player] : NONE;
        }

        void goOnFromBest() {
            System.arraycopy(best, 0, now, 0, MOST_PLAYERS);
        }

        void change(int one, int other) {
            if (one < 0 || other < 0 || one >= MOST_PLAYERS || other >= MOST_PLAYERS) {
                return;
            }
            int whose = now[one];
            now[one] = now[other];
            now[other] = whose;
        }

        /** Steps to the way that is next by the numbers of PLAYERS 0, 1, ..; false behind the last one. */
        boolean stepToNextWay() {
            int rise = count - 2;
            while (rise >= 0 && now[rise] > now[rise + 1]) {
                rise--;
            }
            if (rise < 0) {
                return false;
            }
            int above = count - 1;
            while (above > rise && now[above] < now[rise]) {
                above--;
            }
            change(rise, above);
            int low = rise + 1;
            for (int high = count - 1; low < high; high--) {
                change(low, high);
                low++;
            }
            return true;
        }
    }
}
