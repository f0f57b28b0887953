import java.util.Random;

/** Texts of machines and treaties, drawn by a seed. */
final class Drawn {
    private static final String[] NAMES = {"nose", "wing", "tail", "a", "b", "hull", "engineer", "keeps", "parts", "q",
        "lo", "longer", "rowz", "zz", "at_".replace("_", "e")};

    private final Random random;
    private int units;

    Drawn(Random random) {
        this.random = random;
    }

    private int below(int most) {
        return random.nextInt(most);
    }

    private String blank() {
        String[] blanks = {" ", " ", " ", " ", "  ", "\n", " \n "};
        return blanks[below(blanks.length)];
    }

    /** Blanks may stay away beside a sign. */
    private String maybe() {
        return below(3) == 0 ? blank() : "";
    }

    String machine() {
        StringBuilder text = new StringBuilder();
        int parts = below(6) == 0 ? below(14) : below(8);
        int around = 1 + below(999);
        for (int i = 0; i < parts; i++) {
            part(text, NAMES[i], around);
        }
        int links = below(8) == 0 ? 17 : below(8);
        for (int i = 0; i < links && parts > 1; i++) {
            link(text, parts, "join", "gap", 99);
        }
        links = below(8) == 0 ? 17 : below(8);
        for (int i = 0; i < links && parts > 1; i++) {
            link(text, parts, "moves", "after", 24);
        }
        int tanks = below(12) == 0 ? 4 : 1 + below(3);
        for (int i = 0; i < tanks; i++) {
            int at = below(5) == 0 ? below(100) : below(3) * 10 + below(3);
            int holds = below(6) == 0 ? 15 : 1 + below(15);
            text.append("tank" + blank() + "at" + blank() + at + blank() + "holds " + holds + ";");
        }
        for (int row = 0; row < 8; row++) {
            if (below(2) == 0) {
                row(text, row);
            }
        }
        return text.length() > 1280 ? text.substring(0, 1280) : text.toString();
    }

    private void part(StringBuilder text, String name, int around) {
        boolean inch = below(3) == 0;
        int drawn = below(4) == 0 ? 1 + below(999) : around + below(11) - 5;
        drawn = inch && below(4) > 0 ? drawn * 100 / 254 : drawn;
        int cost = below(5) == 0 ? below(1000) : below(5) == 0 ? 0 : below(30);
        text.append("part").append(blank()).append(name).append(blank()).append("by ").append(below(2)).append(blank())
            .append("long ").append(Math.max(1, Math.min(999, drawn))).append(inch ? " inch" : " cm").append(" grows ")
            .append(below(100)).append(" costs ").append(cost).append(maybe()).append(';').append(maybe());
    }

    private void link(StringBuilder text, int parts, String kind, String word, int most) {
        int first = below(Math.min(parts, NAMES.length));
        int second = (first + 1 + below(parts - 1)) % parts;
        text.append(kind).append(blank()).append(NAMES[first]).append(blank()).append(NAMES[second]).append(blank())
            .append(word).append(blank()).append(below(most + 1)).append(maybe()).append(';').append(maybe());
    }

    private void row(StringBuilder text, int row) {
        text.append("row ").append(row).append(blank());
        int grounds = 1 + below(8);
        for (int x = 0; x < 8; x++) {
            text.append((char) ('a' + below(grounds)));
        }
        text.append(maybe()).append(';').append(maybe());
    }

    /** Mostly without a fault. */
    String treaty() {
        units = 0;
        StringBuilder text = new StringBuilder();
        String[] lines = {"share", "leave", "fly", "keep"};
        String[][] words = {{"land", "cost", "month"}, {"month", "over"}, {"ground", "hour", "speed"},
            {"airline", "shown", "others", "price", "month"}};
        int first = below(4);
        int budget = 4 + below(below(3) == 0 ? 24 : 10);
        for (int i = 0; i < 4; i++) {
            int line = (first + i) % 4;
            if (below(3) > 0) {
                text.append(lines[line]).append(blank()).append(line > 0 ? "when" + blank() : "");
                either(text, words[line], 0, budget);
                text.append(maybe()).append(';').append(maybe());
            }
        }
        return text.length() > 705 ? text.substring(0, 705) : text.toString();
    }

    private void either(StringBuilder text, String[] words, int depth, int budget) {
        both(text, words, depth, budget);
        for (int i = 0; i < 2 && below(4) == 0 && budget > 2; i++) {
            text.append(blank()).append("or").append(blank());
            both(text, words, depth, budget / 2);
        }
    }

    private void both(StringBuilder text, String[] words, int depth, int budget) {
        one(text, words, depth, budget);
        for (int i = 0; i < 2 && below(4) == 0 && budget > 2; i++) {
            text.append(blank()).append("and").append(blank());
            one(text, words, depth, budget / 2);
        }
    }

    private void one(StringBuilder text, String[] words, int depth, int budget) {
        if (below(5) == 0 && depth < 8) {
            text.append("not").append(blank());
            one(text, words, depth + 1, budget);
            return;
        }
        sum(text, words, depth, budget);
        if (below(2) == 0) {
            text.append(maybe()).append("<>=".charAt(below(3))).append(maybe());
            sum(text, words, depth, budget / 2);
        }
    }

    private void sum(StringBuilder text, String[] words, int depth, int budget) {
        term(text, words, depth, budget);
        for (int i = 0; i < 3 && below(4) == 0; i++) {
            text.append(maybe()).append("+-".charAt(below(2))).append(maybe());
            term(text, words, depth, budget / 2);
        }
    }

    private void term(StringBuilder text, String[] words, int depth, int budget) {
        unit(text, words, depth, budget);
        for (int i = 0; i < 2 && below(5) == 0; i++) {
            text.append(maybe()).append("*").append(maybe());
            unit(text, words, depth, budget / 2);
        }
    }

    private void unit(StringBuilder text, String[] words, int depth, int budget) {
        units++;
        int kind = below(7);
        if (kind < 2 && depth < 9 && budget > 2 && units < 70) {
            text.append('(').append(maybe());
            either(text, words, depth + 1, budget - 2);
            text.append(maybe()).append(')');
        } else if (kind < 4) {
            int[] most = {2, 10, 32, 100, 210, 10000};
            text.append(below(most[below(most.length)]));
        } else {
            text.append(words[below(words.length)]);
        }
    }

    /** The text with something wrong in it, most likely. */
    String broken(String text) {
        String[] pieces = {"a", "\u00e9", ";", "(", ")", "not ", " or ", "00001", "7a", "A", "longwords", " part ", " month ",
            " price", "12", " ", "engineer", "0", "9999", "<", "=", "-", "*", "9", "\t", "row 3 abcdefgi;",
            "row 1 aaaaaaaa;", "row 8 aaaaaaaa;", "join nose nose gap 1;", "moves wing tail after 25;",
            "tank at 100 holds 1;", "tank at 1 holds 16;", "fly when speed;", "row 2 airline;", "\u0000", "\u0080"};
        StringBuilder broken = new StringBuilder(text);
        for (int times = 1 + below(2); times > 0; times--) {
            int at = below(broken.length() + 1);
            int kind = below(3);
            if (kind < 2 && broken.length() > 0) {
                int to = Math.min(broken.length(), at + 1 + below(kind == 0 ? 1 : 6));
                broken.delete(Math.min(at, to), to);
            }
            if (kind != 1) {
                broken.insert(Math.min(at, broken.length()), pieces[below(pieces.length)]);
            }
        }
        return broken.length() > 1290 ? broken.substring(0, 1290) : broken.toString();
    }
}
