import java.math.BigInteger;
import java.util.ArrayList;
import java.util.Arrays;
import java.util.HashMap;
import java.util.HashSet;
import java.util.LinkedHashSet;
import java.util.List;
import java.util.Map;
import java.util.Set;
import java.util.TreeMap;
import java.util.regex.Matcher;
import java.util.regex.Pattern;

/**
 * The document once more, written from its words alone and in another way than the class (regular
 * expressions, exceptions, recursion, BigInteger, collections), to hold its answers against.
 */
final class Oracle {
    static final int NO = Integer.MIN_VALUE;
    static final Set<String> LANGUAGE = Set.of("stick", "beat", "times", "pause", "law", "ahead",
            "player", "sees", "hears", "dares", "wrong");

    static final class Law {
        String name;
        int[] weights = new int[4];
        int habit;
        boolean ahead;
    }

    static final class Player {
        String name;
        int law;
        int x;
        int y;
        int speak;
        int dares;
        int taken;
        Set<String> seesNames = new LinkedHashSet<>();
        Set<String> hearsNames = new LinkedHashSet<>();
        Set<Integer> sees = new HashSet<>();
        Set<Integer> hears = new HashSet<>();
    }

    record Wrong(int player, int beat, int by) { }

    record Note(int player, int beat, int time, int strikes) { }

    static final class Fault extends RuntimeException {
        private static final long serialVersionUID = 1L;
        final int number;
        final int place;

        Fault(int number, int place) {
            this.number = number;
            this.place = place;
        }
    }

    record Token(String text, int place) { }

    static final class Tale {
        int lines;
        int[] stick;
        List<Integer> lengths = new ArrayList<>();
        List<Law> laws = new ArrayList<>();
        List<Player> players = new ArrayList<>();
        List<Wrong> wrongs = new ArrayList<>();
        TreeMap<Integer, String[]> asked = new TreeMap<>();
    }

    // ---- the text

    private static final Pattern TOKEN = Pattern.compile("[a-z]+|[0-9]+|[ \\n]+|.", Pattern.DOTALL);
    private List<Token> tokens;
    private int at;
    private int textLength;

    private Token peek() {
        return at < tokens.size() ? tokens.get(at) : new Token("", textLength);
    }

    private boolean isNext(String word) {
        return peek().text.equals(word);
    }

    private Token word() {
        Token token = peek();
        if (!token.text.matches("[a-z]{1,6}") || LANGUAGE.contains(token.text)) {
            throw new Fault(1, token.place);
        }
        at++;
        return token;
    }

    private int number(int least, int most) {
        Token token = peek();
        if (!token.text.matches("[0-9]+")) {
            throw new Fault(1, token.place);
        }
        BigInteger value = new BigInteger(token.text);
        if (value.compareTo(BigInteger.valueOf(least)) < 0 || value.compareTo(BigInteger.valueOf(most)) > 0) {
            throw new Fault(2, token.place);
        }
        at++;
        return value.intValue();
    }

    private int signed(int most) {
        if (isNext("-")) {
            at++;
            return -number(0, most);
        }
        return number(0, most);
    }

    private Tale read(String text) {
        Tale tale = new Tale();
        tokens = new ArrayList<>();
        at = 0;
        textLength = text.length();
        Matcher matcher = TOKEN.matcher(text);
        while (matcher.find()) {
            if (!matcher.group().isBlank() || !matcher.group().matches("[ \\n]+")) {
                tokens.add(new Token(matcher.group(), matcher.start()));
            }
        }
        while (at < tokens.size()) {
            line(tale);
            if (!isNext(";")) {
                throw new Fault(1, peek().place);
            }
            at++;
            tale.lines++;
        }
        for (Map.Entry<Integer, String[]> link : tale.asked.entrySet()) {
            Player him = tale.players.get(Integer.parseInt(link.getValue()[0]));
            String whom = link.getValue()[1];
            int found = -1;
            for (int i = 0; i < tale.players.size(); i++) {
                if (tale.players.get(i).name.equals(whom)) {
                    found = i;
                }
            }
            if (found < 0 || tale.players.get(found) == him) {
                throw new Fault(6, link.getKey());
            }
            (link.getValue()[2].equals("sees") ? him.sees : him.hears).add(found);
        }
        return tale;
    }

    private void line(Tale tale) {
        Token first = peek();
        at++;
        switch (first.text) {
            case "stick" -> {
                if (tale.stick != null) {
                    throw new Fault(3, first.place);
                }
                int x = number(0, 30);
                tale.stick = new int[] {x, number(0, 30)};
            }
            case "beat" -> {
                if (tale.lengths.size() == 40) {
                    throw new Fault(2, first.place);
                }
                int length = number(100, 4000);
                int times = 1;
                if (isNext("times")) {
                    at++;
                    int place = peek().place;
                    times = number(1, 40);
                    if (tale.lengths.size() + times > 40) {
                        throw new Fault(2, place);
                    }
                }
                for (int i = 0; i < times; i++) {
                    tale.lengths.add(length);
                }
            }
            case "pause" -> {
                if (tale.lengths.isEmpty()) {
                    throw new Fault(5, first.place);
                }
                int last = tale.lengths.size() - 1;
                tale.lengths.set(last, tale.lengths.get(last) + number(0, 9999));
            }
            case "law" -> lawLine(tale, first);
            case "player" -> playerLine(tale, first);
            case "wrong" -> {
                if (tale.wrongs.size() == 6) {
                    throw new Fault(2, first.place);
                }
                Token who = word();
                int player = -1;
                for (int i = 0; i < tale.players.size(); i++) {
                    if (tale.players.get(i).name.equals(who.text)) {
                        player = i;
                    }
                }
                if (player < 0) {
                    throw new Fault(4, who.place);
                }
                int beat = number(0, 39);
                tale.wrongs.add(new Wrong(player, beat, signed(2000)));
            }
            default -> throw new Fault(1, first.place);
        }
    }

    private void lawLine(Tale tale, Token first) {
        if (tale.laws.size() == 6) {
            throw new Fault(2, first.place);
        }
        Token name = word();
        if (tale.laws.stream().anyMatch(other -> other.name.equals(name.text))) {
            throw new Fault(3, name.place);
        }
        Law law = new Law();
        law.name = name.text;
        for (int i = 0; i < 4; i++) {
            law.weights[i] = number(0, 9);
        }
        law.habit = signed(500);
        if (isNext("ahead")) {
            at++;
            law.ahead = true;
        }
        tale.laws.add(law);
    }

    private void playerLine(Tale tale, Token first) {
        if (tale.players.size() == 8) {
            throw new Fault(2, first.place);
        }
        Token name = word();
        if (tale.players.stream().anyMatch(other -> other.name.equals(name.text))) {
            throw new Fault(3, name.place);
        }
        Token law = word();
        Player player = new Player();
        player.name = name.text;
        player.law = -1;
        for (int i = 0; i < tale.laws.size(); i++) {
            if (tale.laws.get(i).name.equals(law.text)) {
                player.law = i;
            }
        }
        if (player.law < 0) {
            throw new Fault(4, law.place);
        }
        player.x = number(0, 30);
        player.y = number(0, 30);
        player.speak = number(0, 300);
        boolean dares = false;
        while (isNext("sees") || isNext("hears") || isNext("dares")) {
            Token how = peek();
            at++;
            if (how.text.equals("dares")) {
                if (dares) {
                    throw new Fault(3, how.place);
                }
                dares = true;
                player.dares = number(0, 99);
                continue;
            }
            Set<String> told = how.text.equals("sees") ? player.seesNames : player.hearsNames;
            if (told.size() == 4) {
                throw new Fault(2, how.place);
            }
            Token whom = word();
            if (!told.add(whom.text)) {
                throw new Fault(3, whom.place);
            }
            tale.asked.put(whom.place, new String[] {"" + tale.players.size(), whom.text, how.text});
        }
        tale.players.add(player);
    }

    // ---- the state

    private String tape = "";
    private Tale tale = new Tale();
    private int fault = 0;
    private int place = -1;
    private List<Note> notes = new ArrayList<>();
    private int known = -1;
    private final ArrayList<int[]> history = new ArrayList<>();

    int feed(String twenty) {
        if (tape.length() + 20 > 800) {
            return -1;
        }
        tape += twenty;
        return tape.length();
    }

    int text(int n) {
        if (n < 0 || n > tape.length()) {
            return -2;
        }
        String text = tape.substring(0, n);
        tape = "";
        try {
            tale = read(text);
        } catch (Fault e) {
            fault = e.number;
            place = e.place;
            return -1;
        }
        fault = 0;
        place = -1;
        notes = new ArrayList<>();
        known = -1;
        history.clear();
        return tale.lines;
    }

    int fault(int what) {
        return what == 0 ? fault : what == 1 ? place : -1;
    }

    int named(int what, int letters) {
        List<String> names = new ArrayList<>();
        if (what == 0) {
            tale.laws.forEach(law -> names.add(law.name));
        } else if (what == 1) {
            tale.players.forEach(player -> names.add(player.name));
        }
        for (String name : names) {
            StringBuilder code = new StringBuilder();
            for (char c : name.toCharArray()) {
                String five = Integer.toBinaryString(c - 'a' + 1);
                code.append("00000".substring(five.length())).append(five);
            }
            while (code.length() < 30) {
                code.append('0');
            }
            if (Integer.parseInt(code.toString(), 2) == letters) {
                return names.indexOf(name);
            }
        }
        return -1;
    }

    boolean isPlayer(int player) {
        return player >= 0 && player < tale.players.size();
    }

    boolean isBeat(int beat) {
        return beat >= 0 && beat < tale.lengths.size();
    }

    static int bits(Set<Integer> numbers) {
        return numbers.stream().mapToInt(i -> 1 << i).sum();
    }

    int look(int player, int what) {
        if (!isPlayer(player)) {
            throw new IndexOutOfBoundsException();
        }
        if (what < 0 || what > 7) {
            throw new java.util.NoSuchElementException();
        }
        Player p = tale.players.get(player);
        return new int[] {p.law, p.x, p.y, p.speak, p.dares, bits(p.sees), bits(p.hears), p.taken}[what];
    }

    int law(int law, int what) {
        if (law < 0 || law >= tale.laws.size() || what < 0 || what > 5) {
            return NO;
        }
        Law it = tale.laws.get(law);
        return what < 4 ? it.weights[what] : what == 4 ? it.habit : it.ahead ? 1 : 0;
    }

    int begin(int beat) {
        if (tale.lengths.isEmpty() || beat < 0 || beat > tale.lengths.size()) {
            return -1;
        }
        return tale.lengths.subList(0, beat).stream().mapToInt(i -> i).sum();
    }

    static int root(int square) {
        return BigInteger.valueOf(square).sqrt().intValue();
    }

    static int way(int x, int y, int toX, int toY) {
        return root(9 * ((x - toX) * (x - toX) + (y - toY) * (y - toY)));
    }

    int way(int player, int other) {
        if (!isPlayer(player) || !isPlayer(other)) {
            return -1;
        }
        Player a = tale.players.get(player);
        Player b = tale.players.get(other);
        return way(a.x, a.y, b.x, b.y);
    }

    // ---- entries

    /** ENTRIES under what is told, with what is otherwise. */
    final class World {
        final List<Wrong> wrongs = new ArrayList<>(tale.wrongs);
        final int[] laws = new int[tale.players.size()];
        final int[] taken = new int[tale.players.size()];
        final int[] x = new int[tale.players.size()];
        final int[] y = new int[tale.players.size()];
        final Map<List<Integer>, Long> late = new HashMap<>();
        final Map<List<Integer>, Long> entries = new HashMap<>();
        Set<Integer> alone = null;

        World() {
            for (int i = 0; i < laws.length; i++) {
                Player p = tale.players.get(i);
                laws[i] = p.law;
                taken[i] = p.taken;
                x[i] = p.x;
                y[i] = p.y;
            }
        }

        long pace(int p, int n) {
            return n == 1 ? begin(1) : t(p, n - 1) - t(p, n - 2);
        }

        long t(int p, int n) {
            List<Integer> key = List.of(p, n);
            Long kept = entries.get(key);
            if (kept != null) {
                return kept;
            }
            Player him = tale.players.get(p);
            Law law = tale.laws.get(laws[p]);
            long less = law.ahead ? him.speak : 0;
            long value = begin(n) + law.habit - less;
            if (n > 0) {
                List<long[]> sayings = new ArrayList<>();
                if (alone == null) {
                    sayings.add(new long[] {weight(p, 0), value});
                }
                long own = t(p, n - 1) + pace(p, n);
                sayings.add(new long[] {weight(p, 1), own});
                for (int seen : him.sees) {
                    if (alone == null || alone.contains(seen)) {
                        sayings.add(new long[] {weight(p, 2), t(seen, n - 1) + pace(p, n)});
                    }
                }
                for (int heard : him.hears) {
                    if (alone == null || alone.contains(heard)) {
                        long way = way(x[heard], y[heard], x[p], y[p]);
                        sayings.add(new long[] {weight(p, 3), t(heard, n - 1)
                                + tale.players.get(heard).speak + way + pace(p, n) - less});
                    }
                }
                BigInteger sum = BigInteger.ZERO;
                long weights = 0;
                for (long[] saying : sayings) {
                    sum = sum.add(BigInteger.valueOf(saying[0]).multiply(BigInteger.valueOf(saying[1])));
                    weights += saying[0];
                }
                value = weights == 0 ? own : Math.floorDiv(sum.longValueExact(), weights);
            }
            for (Wrong wrong : wrongs) {
                value += wrong.player == p && wrong.beat == n ? wrong.by : 0;
            }
            value += late.getOrDefault(key, 0L);
            value = Math.max(Math.min(value, 1000000000L), -1000000000L);
            entries.put(key, value);
            return value;
        }

        long weight(int p, int what) {
            return (taken[p] & 1 << what) != 0 ? 0 : tale.laws.get(laws[p]).weights[what];
        }

        long spread(int n) {
            long[] all = row(n);
            return all.length == 0 ? 0 : Arrays.stream(all).max().getAsLong() - Arrays.stream(all).min().getAsLong();
        }

        long lag(int n) {
            long[] all = row(n);
            return all.length == 0 ? 0 : Math.floorDiv(Arrays.stream(all).map(t -> t - begin(n)).sum(), (long) all.length);
        }

        long[] row(int n) {
            long[] all = new long[tale.players.size()];
            for (int p = 0; p < all.length; p++) {
                all[p] = t(p, n);
            }
            return all;
        }

        int verdict(int e) {
            int last = tale.lengths.size() - 1;
            int first = last >= 8 ? last - 8 : 0;
            if (spread(last) - spread(first) > e) {
                return 3;
            }
            if (lag(last) - lag(first) > e) {
                return 1;
            }
            return lag(first) - lag(last) > e ? 2 : 0;
        }

        long sound(int p, int n, int sx, int sy) {
            return t(p, n) + tale.players.get(p).speak + way(x[p], y[p], sx, sy);
        }

        long together(int sx, int sy, int a, int b) {
            long sum = 0;
            for (int n = a; n <= b && !tale.players.isEmpty(); n++) {
                long most = Long.MIN_VALUE;
                long least = Long.MAX_VALUE;
                for (int p = 0; p < tale.players.size(); p++) {
                    most = Math.max(most, sound(p, n, sx, sy));
                    least = Math.min(least, sound(p, n, sx, sy));
                }
                sum += most - least;
            }
            return sum;
        }
    }

    int entry(int player, int beat) {
        return isPlayer(player) && isBeat(beat) ? (int) new World().t(player, beat) : NO;
    }

    int spread(int beat) {
        return isBeat(beat) ? (int) new World().spread(beat) : -1;
    }

    int lag(int beat) {
        return isBeat(beat) ? (int) new World().lag(beat) : NO;
    }

    static boolean in(int n, int least, int most) {
        return n >= least && n <= most;
    }

    int verdict(int e) {
        return tale.lengths.isEmpty() || !in(e, 0, 9999) ? -1 : new World().verdict(e);
    }

    int guilty(int e, int what) {
        if (tale.lengths.isEmpty() || !in(e, 0, 9999) || !in(what, 0, 1)) {
            return -1;
        }
        if (new World().verdict(e) == 0) {
            return -2;
        }
        for (int p = 0; p < tale.players.size(); p++) {
            for (int bit : new int[] {1, 2, 4, 8}) {
                World world = new World();
                if ((world.taken[p] & bit) != 0) {
                    continue;
                }
                world.taken[p] += bit;
                if (world.verdict(e) == 0) {
                    return what == 0 ? p : bit;
                }
            }
        }
        return -1;
    }

    private void remember(int player) {
        Player p = tale.players.get(player);
        history.add(new int[] {player, p.x, p.y, p.taken});
        if (history.size() > 20) {
            history.remove(0);
        }
    }

    boolean take(int player, int bits) {
        if (!isPlayer(player) || !in(bits, 0, 15)) {
            return false;
        }
        remember(player);
        tale.players.get(player).taken = bits;
        return true;
    }

    boolean seat(int player, int x, int y) {
        if (!isPlayer(player) || !in(x, 0, 30) || !in(y, 0, 30)) {
            return false;
        }
        remember(player);
        tale.players.get(player).x = x;
        tale.players.get(player).y = y;
        return true;
    }

    int undo() {
        if (history.isEmpty()) {
            return -1;
        }
        int[] old = history.remove(history.size() - 1);
        Player p = tale.players.get(old[0]);
        p.x = old[1];
        p.y = old[2];
        p.taken = old[3];
        return history.size();
    }

    // ---- the hall

    static boolean isSeat(int x, int y) {
        return in(x, 0, 40) && in(y, 0, 40);
    }

    boolean isSpan(int a, int b) {
        return isBeat(a) && isBeat(b) && a <= b;
    }

    int sound(int player, int beat, int x, int y) {
        return isPlayer(player) && isBeat(beat) && isSeat(x, y) ? (int) new World().sound(player, beat, x, y) : NO;
    }

    long together(int x, int y, int a, int b) {
        return isSeat(x, y) && isSpan(a, b) ? new World().together(x, y, a, b) : -1;
    }

    long where(int a, int b, int what) {
        if (!isSpan(a, b) || !in(what, 0, 2)) {
            return -1;
        }
        World world = new World();
        TreeMap<Long, Integer> best = new TreeMap<>();
        for (int seat = 0; seat < 41 * 41; seat++) {
            best.putIfAbsent(world.together(seat % 41, seat / 41, a, b), seat);
        }
        int seat = best.firstEntry().getValue();
        return what == 0 ? seat % 41 : what == 1 ? seat / 41 : best.firstKey();
    }

    int shift(int player, int x, int y) {
        if (!isPlayer(player) || !isSeat(x, y)) {
            return -1;
        }
        List<Integer> late = new ArrayList<>();
        for (Player p : tale.players) {
            late.add(p.speak + way(p.x, p.y, x, y));
        }
        return late.stream().mapToInt(i -> i).max().getAsInt() - late.get(player);
    }

    // ---- wrong ones

    private boolean isWrong(int wrong, int beat, int v) {
        return isPlayer(wrong) && isBeat(beat) && in(v, -2000, 2000) && v != 0;
    }

    /** For each BEAT and PLAYER how much later. */
    private long[][] moves(int wrong, int beat, int v) {
        World without = new World();
        World with = new World();
        with.wrongs.add(new Wrong(wrong, beat, v));
        long[][] moves = new long[tale.lengths.size()][tale.players.size()];
        for (int n = 0; n < moves.length; n++) {
            for (int p = 0; p < moves[n].length; p++) {
                moves[n][p] = with.t(p, n) - without.t(p, n);
            }
        }
        return moves;
    }

    int moved(int wrong, int beat, int v, int player, int m) {
        return isWrong(wrong, beat, v) && isPlayer(player) && isBeat(m) ? (int) moves(wrong, beat, v)[m][player] : NO;
    }

    int far(int wrong, int beat, int v, int m) {
        return isWrong(wrong, beat, v) && isBeat(m)
                ? (int) Arrays.stream(moves(wrong, beat, v)[m]).map(Math::abs).max().getAsLong() : -1;
    }

    int ends(int wrong, int beat, int v) {
        if (!isWrong(wrong, beat, v)) {
            return -2;
        }
        long[][] moves = moves(wrong, beat, v);
        for (int n = beat; n < moves.length; n++) {
            boolean quiet = true;
            for (int m = n; m < moves.length; m++) {
                quiet &= Arrays.stream(moves[m]).allMatch(move -> Math.abs(move) <= 1);
            }
            if (quiet) {
                return n;
            }
        }
        return -1;
    }

    int goes(int wrong, int beat, int v, int k, int e) {
        if (!isWrong(wrong, beat, v) || !in(k, 0, 40) || !in(e, 0, 9999)) {
            return -1;
        }
        long[][] moves = moves(wrong, beat, v);
        Set<Integer> found = new HashSet<>();
        for (int n = beat; n <= beat + k && n < moves.length; n++) {
            for (int p = 0; p < moves[n].length; p++) {
                if (Math.abs(moves[n][p]) > e) {
                    found.add(p);
                }
            }
        }
        return bits(found);
    }

    int by(int player) {
        if (!isPlayer(player)) {
            return -1;
        }
        Set<Integer> found = new HashSet<>();
        follow(player, found);
        return bits(found);
    }

    private void follow(int player, Set<Integer> found) {
        World world = new World();
        Set<Integer> straight = new HashSet<>();
        if (world.weight(player, 2) > 0) {
            straight.addAll(tale.players.get(player).sees);
        }
        if (world.weight(player, 3) > 0) {
            straight.addAll(tale.players.get(player).hears);
        }
        for (int other : straight) {
            if (found.add(other)) {
                follow(other, found);
            }
        }
    }

    // ---- films

    int film(int player, int beat, int time) {
        if (!isPlayer(player) || !isBeat(beat) || !in(time, -1000000, 1000000) || notes.size() == 40) {
            return -1;
        }
        notes.add(new Note(player, beat, time, -1));
        return notes.size() - 1;
    }

    int strike(int note) {
        if (!in(note, 0, notes.size() - 1) || notes.size() == 40) {
            return -1;
        }
        notes.add(new Note(-1, -1, 0, note));
        return notes.size() - 1;
    }

    boolean known(int n) {
        if (!in(n, -1, notes.size())) {
            return false;
        }
        known = n;
        return true;
    }

    private int knownBy() {
        return known < 0 ? notes.size() : known;
    }

    private boolean isStruck(int note) {
        for (int i = note + 1; i < knownBy(); i++) {
            if (notes.get(i).strikes == note && !isStruck(i)) {
                return true;
            }
        }
        return false;
    }

    private List<Integer> fitting(int player, int d) {
        List<Integer> laws = new ArrayList<>();
        for (int law = 0; law < tale.laws.size(); law++) {
            World world = new World();
            world.laws[player] = law;
            boolean fits = true;
            for (int i = 0; i < knownBy(); i++) {
                Note note = notes.get(i);
                if (note.player == player && !isStruck(i)) {
                    fits &= Math.abs(world.t(player, note.beat) - note.time) <= d;
                }
            }
            if (fits) {
                laws.add(law);
            }
        }
        return laws;
    }

    int fits(int player, int d) {
        return isPlayer(player) && in(d, 0, 9999) ? bits(new HashSet<>(fitting(player, d))) : -1;
    }

    int next(int player, int d, int what) {
        if (!isPlayer(player) || !in(d, 0, 9999) || !in(what, 0, 1)) {
            return -1;
        }
        List<Integer> laws = fitting(player, d);
        if (laws.size() < 2) {
            return -1;
        }
        int best = 0;
        int least = 99;
        for (int bit : new int[] {1, 2, 4, 8}) {
            Map<List<Long>, Integer> groups = new HashMap<>();
            for (int law : laws) {
                World world = new World();
                world.laws[player] = law;
                world.taken[player] |= bit;
                List<Long> his = new ArrayList<>();
                for (int n = 0; n < tale.lengths.size(); n++) {
                    his.add(world.t(player, n));
                }
                groups.merge(his, 1, Integer::sum);
            }
            int greatest = groups.values().stream().mapToInt(i -> i).max().getAsInt();
            if (greatest < least) {
                least = greatest;
                best = bit;
            }
        }
        return what == 0 ? best : least;
    }

    // ---- seats changed

    private long seated(List<Integer> places, int[] ask) {
        World world = new World();
        for (int p = 0; p < places.size(); p++) {
            world.x[p] = tale.players.get(places.get(p)).x;
            world.y[p] = tale.players.get(places.get(p)).y;
        }
        return world.together(ask[0], ask[1], ask[2], ask[3]);
    }

    private void allWays(List<Integer> ahead, List<List<Integer>> into) {
        if (ahead.size() == tale.players.size()) {
            into.add(List.copyOf(ahead));
        }
        for (int p = 0; p < tale.players.size(); p++) {
            if (!ahead.contains(p)) {
                List<Integer> more = new ArrayList<>(ahead);
                more.add(p);
                allWays(more, into);
            }
        }
    }

    long order(int x, int y, int a, int b, int what) {
        if (tale.players.isEmpty() || !isSeat(x, y) || !isSpan(a, b) || !in(what, 0, tale.players.size())) {
            return -1;
        }
        int[] ask = {x, y, a, b};
        List<Integer> best = new ArrayList<>();
        for (int p = 0; p < tale.players.size(); p++) {
            best.add(p);
        }
        if (best.size() <= 5) {
            List<List<Integer>> ways = new ArrayList<>();
            allWays(List.of(), ways);
            for (List<Integer> way : ways) {
                if (seated(way, ask) < seated(best, ask)) {
                    best = way;
                }
            }
        } else {
            for (int round = 0; round < 20; round++) {
                List<Integer> from = best;
                long least = seated(from, ask);
                for (int i = 0; i < from.size(); i++) {
                    for (int j = i + 1; j < from.size(); j++) {
                        List<Integer> changed = new ArrayList<>(from);
                        changed.set(i, from.get(j));
                        changed.set(j, from.get(i));
                        long here = seated(changed, ask);
                        if (here < least) {
                            least = here;
                            best = changed;
                        }
                    }
                }
                if (best == from) {
                    break;
                }
            }
        }
        return what == 0 ? seated(best, ask) : best.get(what - 1);
    }

    // ---- pauses, pairs, doubt, chance

    int pause(int player, int what) {
        if (!isPlayer(player) || !in(what, 0, 1)) {
            return -1;
        }
        BigInteger his = BigInteger.valueOf(tale.players.get(player).dares);
        BigInteger all = BigInteger.valueOf(tale.players.stream().mapToInt(p -> p.dares).sum());
        if (all.signum() == 0) {
            return 0;
        }
        return (what == 0 ? his : all).divide(his.gcd(all)).intValue();
    }

    int two(int first, int second, int n) {
        if (!isPlayer(first) || !isPlayer(second) || first == second || n < 2 || !isBeat(n)) {
            return NO;
        }
        World world = new World();
        world.alone = Set.of(first, second);
        return (int) (world.pace(first, n) - world.pace(first, 1));
    }

    int clear(int what) {
        if (tale.players.isEmpty() || !in(what, 0, 1)) {
            return NO;
        }
        int best = 0;
        int least = Integer.MAX_VALUE;
        for (int k = -500; k <= 500; k++) {
            int sum = 0;
            for (Player p : tale.players) {
                sum += Math.abs(tale.laws.get(p.law).habit - k);
            }
            if (sum < least) {
                least = sum;
                best = k;
            }
        }
        return what == 0 ? best : least;
    }

    int draws(int seed, int many, int j, int e) {
        if (tale.lengths.isEmpty() || seed < 0 || !in(many, 1, 50) || !in(j, 0, 200) || !in(e, 0, 9999)) {
            return -1;
        }
        BigInteger last = BigInteger.valueOf(seed);
        int holds = 0;
        for (int draw = 0; draw < many; draw++) {
            World world = new World();
            for (int n = 0; n < tale.lengths.size(); n++) {
                for (int p = 0; p < tale.players.size(); p++) {
                    last = last.multiply(BigInteger.valueOf(1103515245)).add(BigInteger.valueOf(12345))
                            .mod(BigInteger.ONE.shiftLeft(31));
                    world.late.put(List.of(p, n), last.longValue() / 65536 % (2 * j + 1) - j);
                }
            }
            holds += world.verdict(e) == 0 ? 1 : 0;
        }
        return holds;
    }

    int count(int what) {
        int[] stick = tale.stick == null ? new int[] {15, 0} : tale.stick;
        int[] counts = {tale.laws.size(), tale.players.size(), tale.lengths.size(), tale.wrongs.size(),
            notes.size(), knownBy(), history.size(), stick[0], stick[1]};
        return what >= 0 && what < counts.length ? counts[what] : -1;
    }
}
