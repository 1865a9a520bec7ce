import java.util.ArrayList;
import java.util.Arrays;
import java.util.List;

/** Makes clusters and scripts, most of them good, by dice. */
final class Texts {
    private static final String[] NAMES = {"a", "b", "cc", "d", "held", "e", "format", "ff", "g", "version", "hh", "i",
        "jjjjjjjj", "k", "lm", "n", "oo", "p"};

    private Texts() {
    }

    static String cluster(Dice dice) {
        List<String> parts = new ArrayList<>();
        int versions = 1 + (dice.in(10) ? dice.below(9) : dice.below(4));
        int format = dice.in(2) ? 1 : 1 + dice.below(3);
        List<String> settings = settings(dice);
        boolean isEarly = dice.in(2);
        if (format > 1) {
            parts.add("format " + format);
        }
        int skew = dice.in(2) ? 1 : dice.below(4);
        if (skew != 1 || dice.in(3)) {
            parts.add("skew " + skew);
        }
        for (int v = 0; v < versions; v++) {
            int low = Math.max(1, dice.in(5) ? format + dice.below(2) : format - dice.below(2));
            parts.add("version " + NAMES[v] + " " + low + " " + Math.min(9, low + dice.below(4)));
        }
        talks(dice, parts, versions);
        if (isEarly) {
            parts.addAll(settings);
        }
        rest(dice, parts, versions, skew);
        if (!isEarly) {
            parts.addAll(settings);
        }
        String text = join(dice, parts);
        return dice.in(4) ? spoil(dice, text) : text;
    }

    private static void talks(Dice dice, List<String> parts, int versions) {
        for (int v = 0; v < versions; v++) {
            for (int o = 0; o < v; o++) {
                if (v - o == 1 ? !dice.in(8) : dice.in(3)) {
                    parts.add("talks " + (dice.in(2) ? NAMES[v] + " " + NAMES[o] : NAMES[o] + " " + NAMES[v]));
                }
            }
        }
    }

    private static void rest(Dice dice, List<String> parts, int versions, int skew) {
        int places = 1 + dice.below(dice.in(12) ? 6 : 4);
        List<String> waves = new ArrayList<>();
        for (int p = 0; p < places; p++) {
            parts.add("place " + NAMES[p]);
            if (waves.isEmpty() || dice.in(2)) {
                waves.add("wave " + NAMES[p]);
            } else if (!dice.in(5)) {
                int w = dice.below(waves.size());
                waves.set(w, waves.get(w) + " " + NAMES[p]);
            }
        }
        boolean isAhead = dice.in(2);
        if (isAhead) {
            parts.addAll(waves);
        }
        int members = dice.in(15) ? 0 : dice.in(8) ? dice.below(14) : 1 + dice.below(6);
        int usual = dice.below(versions);
        for (int m = 0; m < members; m++) {
            int version = dice.in(4) ? Math.min(versions - 1, usual + dice.below(Math.max(1, skew + 1))) : usual;
            parts.add("member " + NAMES[m] + " " + NAMES[dice.below(places)] + " " + NAMES[version]
                    + (dice.in(6) ? " held" : ""));
        }
        for (int k = members > 1 ? dice.below(dice.in(10) ? 10 : 4) : 0; k > 0; k--) {
            parts.add("link " + NAMES[dice.below(members)] + " " + NAMES[dice.below(members)]);
        }
        if (!isAhead) {
            parts.addAll(waves);
        }
    }

    private static List<String> settings(Dice dice) {
        List<String> all = new ArrayList<>();
        if (!dice.in(3)) {
            all.add("down " + (1 + dice.below(3)));
        }
        if (!dice.in(3)) {
            all.add("takes " + (1 + dice.below(dice.in(6) ? 99 : 6)));
        }
        if (!dice.in(3)) {
            all.add("soak " + dice.below(dice.in(6) ? 100 : 8));
        }
        if (!dice.in(3)) {
            all.add("limit " + dice.below(dice.in(3) ? 1000 : 40));
        }
        return all;
    }

    private static String join(Dice dice, List<String> parts) {
        String blank = dice.in(3) ? "\n" : "";
        String text = "";
        for (String part : parts) {
            String next = text + part + ";" + blank;
            if (next.length() <= 900) {
                text = next;
            }
        }
        return text;
    }

    static String script(Dice dice, List<String> versions, List<String> members) {
        String text = part(dice, versions, members, 0, 1 + dice.below(dice.in(10) ? 34 : 6));
        text = text.length() > 900 ? text.substring(0, 900) : text;
        return dice.in(9) ? spoil(dice, text) : text;
    }

    private static String pick(Dice dice, List<String> names) {
        return names.isEmpty() || dice.in(200) ? NAMES[dice.below(NAMES.length)] : names.get(dice.below(names.size()));
    }

    private static String part(Dice dice, List<String> versions, List<String> members, int depth, int count) {
        StringBuilder all = new StringBuilder();
        for (int k = 0; k < count; k++) {
            switch (dice.below(depth < 2 || dice.in(20) ? 15 : 12)) {
                case 0: case 1: case 2: all.append("pass ").append(dice.below(dice.in(6) ? 1000 : 20)); break;
                case 3: case 4: all.append("start ").append(pick(dice, versions)); break;
                case 5: all.append("stop"); break;
                case 6: all.append("go"); break;
                case 7: all.append("hold ").append(pick(dice, members)); break;
                case 8: all.append("free ").append(pick(dice, members)); break;
                case 9: all.append("report ").append(pick(dice, members)).append(' ').append(dice.below(200)); break;
                case 10: all.append("change ").append(pick(dice, members)).append(' ').append(pick(dice, versions)); break;
                case 11: all.append("commit ").append(dice.below(12)); break;
                default:
                    all.append("repeat ").append(1 + dice.below(dice.in(5) ? 21 : 4)).append(" (")
                            .append(part(dice, versions, members, depth + 1, dice.below(3))).append(")");
                    break;
            }
            all.append(dice.in(4) ? "; " : ";");
        }
        return all.toString();
    }

    /** Loses, doubles, exchanges or changes a word or a sign of a text. */
    private static String spoil(Dice dice, String text) {
        List<String> words = new ArrayList<>(Arrays.asList(text.split("(?<=[ ;\n()])|(?=[ ;\n()])")));
        for (int k = dice.below(2); k >= 0; k--) {
            int at = dice.below(words.size());
            String other = words.get(dice.below(words.size()));
            switch (dice.below(7)) {
                case 0: words.remove(at); words.add("");  break;
                case 1: words.add(at, words.get(at)); break;
                case 2: words.set(at, other); break;
                case 3: words.add(at, " " + other + " "); break;
                case 4: words.set(at, "" + dice.below(1200)); break;
                case 5: words.set(at, words.get(at) + (char) dice.below(256)); break;
                default: words = new ArrayList<>(words.subList(0, at)); words.add(""); break;
            }
        }
        String all = String.join("", words);
        return all.length() > 900 ? all.substring(0, 900) : all;
    }
}
