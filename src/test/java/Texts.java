import java.util.ArrayList;
import java.util.List;
import java.util.Random;

/** Random TEXTS: good ones, and ones with a few TOKENS spoilt. */
final class Texts {
    static final String[] NAMES = {"a", "b", "c", "d", "e", "f", "g", "h", "i", "viola", "cellos", "zz", "hornists", "law"};
    private static final String[] PIECES = {"stick", "beat", "times", "pause", "law", "ahead", "player", "sees", "hears",
        "dares", "wrong", ";", "-", "#", "A", "\u00e9", "\t", "a", "b", "q", "viola", "hornists", "0", "1", "9", "10", "30",
        "31", "40", "41", "99", "100", "300", "301", "500", "501", "2000", "2001", "4000", "4001", "9999", "10000", "039",
        "99999999999999999999", ""};
    private final Random random;

    Texts(Random random) {
        this.random = random;
    }

    private int upTo(int most) {
        return random.nextInt(most + 1);
    }

    private String signed(int most) {
        return random.nextInt(3) == 0 ? "- " + upTo(most) : "" + upTo(most);
    }

    String good() {
        for (int tries = 0; tries < 1000; tries++) {
            String text = String.join(blank(), tokens());
            if (text.length() <= 780) {
                return text;
            }
        }
        return "";
    }

    String bad() {
        List<String> tokens = tokens();
        int spoils = 1 + random.nextInt(2);
        for (int i = 0; i < spoils && !tokens.isEmpty(); i++) {
            int at = random.nextInt(tokens.size());
            String piece = PIECES[random.nextInt(PIECES.length)];
            switch (random.nextInt(4)) {
                case 0 -> tokens.set(at, piece);
                case 1 -> tokens.add(at, piece);
                case 2 -> tokens.remove(at);
                default -> tokens.subList(at, tokens.size()).clear();
            }
        }
        String text = String.join(random.nextInt(5) == 0 ? "" : blank(), tokens);
        return text.length() <= 800 ? text : text.substring(0, 780);
    }

    private String blank() {
        return new String[] {" ", " ", " ", "\n", "  ", " \n"}[random.nextInt(6)];
    }

    private List<String> tokens() {
        List<List<String>> lines = new ArrayList<>();
        int players = random.nextInt(6) == 0 ? upTo(8) : upTo(5);
        int laws = players > 0 ? 1 + upTo(4) : upTo(2);
        List<List<String>> frame = new ArrayList<>();
        for (int law = 0; law < laws; law++) {
            frame.add(law(law));
        }
        for (int player = 0; player < players; player++) {
            frame.add(player(player, players, laws));
        }
        for (int wrong = upTo(2); wrong > 0 && players > 0; wrong--) {
            frame.add(words("wrong " + NAMES[upTo(players - 1)] + " " + upTo(random.nextInt(4) == 0 ? 39 : 6) + " " + signed(2000)));
        }
        List<List<String>> time = new ArrayList<>();
        int beats = random.nextInt(5) == 0 ? 40 : upTo(14);
        while (beats > 0) {
            int times = Math.min(beats, 1 + upTo(beats));
            time.add(words("beat " + (100 + upTo(900)) + (times > 1 || random.nextBoolean() ? " times " + times : "")));
            beats -= times;
            if (random.nextInt(3) == 0) {
                time.add(words("pause " + upTo(random.nextInt(4) == 0 ? 9999 : 300)));
            }
        }
        if (random.nextBoolean()) {
            time.add(upTo(time.size()), words("stick " + upTo(30) + " " + upTo(30)));
        }
        while (!frame.isEmpty() || !time.isEmpty()) {
            boolean first = time.isEmpty() || !frame.isEmpty() && random.nextBoolean();
            lines.add((first ? frame : time).remove(0));
        }
        List<String> tokens = new ArrayList<>();
        for (List<String> line : lines) {
            tokens.addAll(line);
            tokens.add(";");
        }
        return tokens;
    }

    private List<String> law(int law) {
        StringBuilder line = new StringBuilder("law " + NAMES[law]);
        for (int i = 0; i < 4; i++) {
            line.append(' ').append(random.nextInt(3) == 0 ? 0 : upTo(random.nextBoolean() ? 2 : 9));
        }
        line.append(' ').append(signed(random.nextBoolean() ? 500 : 30));
        if (random.nextInt(3) == 0) {
            line.append(" ahead");
        }
        return words(line.toString());
    }

    private List<String> player(int player, int players, int laws) {
        StringBuilder line = new StringBuilder("player " + NAMES[player] + " " + NAMES[upTo(laws - 1)] + " " + upTo(30) + " "
                + upTo(30) + " " + upTo(random.nextBoolean() ? 300 : 20));
        for (String how : new String[] {" sees ", " hears "}) {
            int many = 0;
            for (int other = 0; other < players; other++) {
                if (other != player && many < 4 && random.nextInt(3) == 0) {
                    line.append(how).append(NAMES[other]);
                    many++;
                }
            }
            if (how.equals(" sees ") && random.nextInt(3) == 0) {
                line.append(" dares ").append(upTo(random.nextBoolean() ? 99 : 6));
            }
        }
        return words(line.toString());
    }

    private static List<String> words(String line) {
        return new ArrayList<>(List.of(line.split(" ")));
    }
}
