import java.io.IOException;
import java.nio.file.Files;
import java.nio.file.Path;

/** What the tests share: expectations, and texts fed into the buffer of a cluster. */
final class Check {
    private static final Path DOCUMENT = Path.of("../shared/DOC.md");

    private final String test;
    private String document = "";
    private String sentence = "";
    private int wrong = 0;
    private int made = 0;

    Check(String test) {
        this.test = test;
    }

    /**
     * The words of the document that the answers behind this call are about. Words that the document has no
     * longer are told and nothing more, since what the program does may be right all the same.
     */
    void sentence(String words) {
        sentence = words;
        try {
            if (document.isEmpty()) {
                document = Files.readString(DOCUMENT).replaceAll("\\s+", " ");
            }
        } catch (IOException e) {
            document = words;
        }
        if (!document.contains(words)) {
            System.out.println(test + ": the document does not say (any more): " + words);
        }
    }

    private void tell(String what, String got, String due) {
        wrong++;
        System.out.println(test + ": " + what + " answered " + got + ", due is " + due
                + (sentence.isEmpty() ? "" : " [" + sentence + "]"));
    }

    /** A call of the face; its answer is a number, a boolean counts 1 or 0. */
    interface Call {
        double answer();
    }

    void same(String what, double got, double due) {
        made++;
        if (got != due) {
            tell(what, "" + got, "" + due);
        }
    }

    void same(String what, boolean got, boolean due) {
        same(what, got ? 1 : 0, due ? 1 : 0);
    }

    void sameText(String what, String got, String due) {
        made++;
        if (!got.equals(due)) {
            tell(what, "<" + got + ">", "<" + due + ">");
        }
    }

    void fails(String what, Class<? extends RuntimeException> due, Call call) {
        made++;
        String got;
        try {
            got = "" + call.answer();
        } catch (RuntimeException e) {
            got = e.getClass().getSimpleName();
        }
        if (!got.equals(due.getSimpleName())) {
            tell(what, got, due.getSimpleName());
        }
    }

    void noIndex(String what, Call call) {
        fails(what, IndexOutOfBoundsException.class, call);
    }

    void noArgument(String what, Call call) {
        fails(what, IllegalArgumentException.class, call);
    }

    void noState(String what, Call call) {
        fails(what, IllegalStateException.class, call);
    }

    void end() {
        System.out.println(test + ": " + made + " answers, " + wrong + " wrong");
        if (wrong > 0) {
            System.exit(1);
        }
    }

    /** Puts a text behind what the buffer has; the calls are few, so long texts are fed in twenties. */
    static void put(WaveUpgrade x, String text) {
        int before = x.feed(0, 0, 0, 0, 0) - 20;
        x.truncate(before);
        for (int i = 0; i < text.length(); i += 20) {
            x.feed(four(text, i), four(text, i + 4), four(text, i + 8), four(text, i + 12), four(text, i + 16));
        }
        x.truncate(before + text.length());
    }

    static int four(String text, int from) {
        int all = 0;
        for (int i = from; i < from + 4; i++) {
            all = all << 8 | (i < text.length() ? text.charAt(i) & 255 : 0);
        }
        return all;
    }

    static WaveUpgrade cluster(String text) {
        WaveUpgrade x = new WaveUpgrade();
        put(x, text);
        x.readText();
        return x;
    }

    static int script(WaveUpgrade x, String text) {
        put(x, text);
        return x.runScript();
    }

    /** The code and the position of the error of a text, as "code@position"; "0@-1" if it has none. */
    static String errorOf(WaveUpgrade x, String text, boolean isScript) {
        put(x, text);
        try {
            if (isScript) {
                x.runScript();
            } else {
                x.readText();
            }
        } catch (IllegalArgumentException e) {
            return x.errorCode() + "@" + x.errorPosition() + (x.errorCode() != 0 ? "" : " with an exception");
        }
        return x.errorCode() + "@" + x.errorPosition() + (x.errorCode() == 0 ? "" : " without an exception");
    }

    static String reportOf(WaveUpgrade x) {
        int length = x.writeReport();
        StringBuilder all = new StringBuilder();
        for (int i = 0; i < length; i++) {
            all.append((char) x.reportByte(i));
        }
        return all.toString();
    }
}
