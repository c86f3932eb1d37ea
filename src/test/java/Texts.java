import java.util.ArrayList;
import java.util.List;
import java.util.Random;

/** Random TEXTS: good ones, and ones with a few TOKENS spoilt. */
final class Texts {
    static final String[] NAMES = {"a", "b", "c", "d", "e", "f", "g", "h", "i", "viola", "cellos", "zz", "hornists", "law"};
    private static final String[] PIECES = {"stick", "beat", "times", "pause", "law", "ahead", "player", "sees", "hears",
        "dares", "wrong", ";", "-", "#", "A", "\u00e9", "\t", "a", "b", "q", "viola", "hornists", "0", "1", "9", "10", "30",
        "31", "40", "41", "99", "100", "300", "301", "500", "501", "2000", "2001", "4000", "4001", "9999", "10000", "039",
        "99999999999999999999", ""};
    private final Random random;
    /** LAWS that differ in little, so that groups of them have like ENTRIES. */
    private final boolean alike;

    Texts(Random random) {
        this.random = random;
        this.alike = random.nextInt(3) == 0;
    }

    private int upTo(int most) {
        return random.nextInt(most + 1);
    }

    private String signed(int most) {
        return random.nextInt(3) == 0 ? "- " + upTo(most) : "" + upTo(most);
    }

    String good() {
        for (int tries = 0; tries < 1000; tries++) {
            String text = join(lines());
            if (text.length() <= 780) {
                return text;
            }
        }
        return "";
    }

    String bad() {
        List<List<String>> lines = lines();
        if (random.nextBoolean()) {
            spoilLines(lines);
        }
        if (random.nextBoolean()) {
            spoilToken(lines);
        }
        String text = join(lines);
        int cut = random.nextInt(8) == 0 ? random.nextInt(text.length() + 1) : text.length();
        return text.substring(0, Math.min(cut, 780));
    }

    /** Told twice, too late, too early, not at all. */
    private void spoilLines(List<List<String>> lines) {
        for (int spoils = 1 + random.nextInt(3); spoils > 0 && !lines.isEmpty(); spoils--) {
            int from = random.nextInt(lines.size());
            int to = random.nextInt(lines.size());
            switch (random.nextInt(3)) {
                case 0 -> lines.add(to, new ArrayList<>(lines.get(from)));
                case 1 -> lines.add(to, lines.remove(from));
                default -> lines.remove(from);
            }
        }
    }

    private void spoilToken(List<List<String>> lines) {
        if (lines.isEmpty()) {
            return;
        }
        List<String> line = lines.get(random.nextInt(lines.size()));
        int at = random.nextInt(line.size());
        String piece = PIECES[random.nextInt(PIECES.length)];
        switch (random.nextInt(4)) {
            case 0 -> line.set(at, piece);
            case 1 -> line.add(at, piece);
            case 2 -> line.add(at, line.get(random.nextInt(line.size())));
            default -> line.remove(at);
        }
    }

    private String join(List<List<String>> lines) {
        List<String> tokens = new ArrayList<>();
        for (List<String> line : lines) {
            tokens.addAll(line);
            tokens.add(";");
        }
        return String.join(random.nextInt(30) == 0 ? "" : blank(), tokens);
    }

    private String blank() {
        return new String[] {" ", " ", " ", "\n", "  ", " \n"}[random.nextInt(6)];
    }

    private List<List<String>> lines() {
        List<List<String>> lines = new ArrayList<>();
        int players = random.nextInt(6) == 0 ? upTo(8) : 1 + upTo(4);
        int laws = players > 0 ? 1 + upTo(4) : upTo(2);
        List<List<String>> frame = new ArrayList<>();
        for (int law = 0; law < laws; law++) {
            frame.add(law(law));
        }
        for (int player = 0; player < players; player++) {
            frame.add(player(player, players, laws));
        }
        for (int wrong = upTo(2); wrong > 0 && players > 0; wrong--) {
            frame.add(words("wrong " + NAMES[upTo(players - 1)] + " " + upTo(random.nextInt(4) == 0 ? 39 : 6) + " " + signed(2000)));
        }
        List<List<String>> time = new ArrayList<>();
        int beats = random.nextInt(5) == 0 ? 40 : random.nextInt(20) == 0 ? 0 : 1 + upTo(13);
        while (beats > 0) {
            int times = Math.min(beats, 1 + upTo(beats));
            time.add(words("beat " + (100 + upTo(900)) + (times > 1 || random.nextBoolean() ? " times " + times : "")));
            beats -= times;
            if (random.nextInt(3) == 0) {
                time.add(words("pause " + upTo(random.nextInt(4) == 0 ? 9999 : 300)));
            }
        }
        if (random.nextBoolean()) {
            time.add(upTo(time.size()), words("stick " + upTo(30) + " " + upTo(30)));
        }
        while (!frame.isEmpty() || !time.isEmpty()) {
            boolean first = time.isEmpty() || !frame.isEmpty() && random.nextBoolean();
            lines.add((first ? frame : time).remove(0));
        }
        return lines;
    }

    private List<String> law(int law) {
        StringBuilder line = new StringBuilder("law " + NAMES[law]);
        for (int i = 0; i < 4; i++) {
            line.append(' ').append(random.nextInt(3) == 0 ? 0 : upTo(alike ? 1 : random.nextBoolean() ? 2 : 9));
        }
        line.append(' ').append(alike ? "7" : signed(random.nextBoolean() ? 500 : 30));
        if (!alike && random.nextInt(3) == 0) {
            line.append(" ahead");
        }
        return words(line.toString());
    }

    private List<String> player(int player, int players, int laws) {
        StringBuilder line = new StringBuilder("player " + NAMES[player] + " " + NAMES[upTo(laws - 1)] + " " + upTo(30) + " "
                + upTo(30) + " " + upTo(random.nextBoolean() ? 300 : 20));
        for (String how : new String[] {" sees ", " hears "}) {
            int many = 0;
            for (int other = 0; other < players; other++) {
                if (other != player && many < 4 && random.nextInt(3) == 0) {
                    line.append(how).append(NAMES[other]);
                    many++;
                }
            }
            if (how.equals(" sees ") && random.nextInt(3) == 0) {
                line.append(" dares ").append(upTo(random.nextBoolean() ? 99 : 6));
            }
        }
        return words(line.toString());
    }

    private static List<String> words(String line) {
        return new ArrayList<>(List.of(line.split(" ")));
    }
}
